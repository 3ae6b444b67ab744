section JS
theorem kbadG {m pc : Nat} : js_OkG m pc o_bad := js_St.okG st_bad (fun _ _ _ _ _ => rfl)
theorem kw_100 : (Jvm.Cond.classLink "MosaicCatalogueLaw" 8 "MosaicCatalogue") ∈ js_ws := js_ws_of 100 (by decide +kernel) (by decide +kernel)
theorem kw_101 : (Jvm.Cond.instantiable "MosaicCatalogue" 11) ∈ js_ws := js_ws_of 101 (by decide +kernel) (by decide +kernel)
theorem kw_102 : (Jvm.Cond.methodLink "MosaicCatalogueLaw" 149 ⟨"MosaicCatalogue", "<init>", "()V"⟩) ∈ js_ws := js_ws_of 102 (by decide +kernel) (by decide +kernel)
theorem kw_103 : (Jvm.Cond.instanceMethod ⟨"MosaicCatalogue", "<init>", "()V"⟩) ∈ js_ws := js_ws_of 103 (by decide +kernel) (by decide +kernel)
theorem kw_304 : (Jvm.Cond.methodLink "MosaicCatalogueLaw" 166 ⟨"MosaicCatalogue", "fragmentCount", "()I"⟩) ∈ js_ws := js_ws_of 304 (by decide +kernel) (by decide +kernel)
theorem kw_305 : (Jvm.Cond.instanceMethod ⟨"MosaicCatalogue", "fragmentCount", "()I"⟩) ∈ js_ws := js_ws_of 305 (by decide +kernel) (by decide +kernel)
theorem kw_306 : (Jvm.Cond.selects "MosaicCatalogue" ⟨"MosaicCatalogue", "fragmentCount", "()I"⟩ ⟨"MosaicCatalogue", "fragmentCount", "()I"⟩) ∈ js_ws := js_ws_of 306 (by decide +kernel) (by decide +kernel)
theorem kw_308 : (Jvm.Cond.methodLink "MosaicCatalogueLaw" 170 ⟨"MosaicCatalogue", "trayCount", "()I"⟩) ∈ js_ws := js_ws_of 308 (by decide +kernel) (by decide +kernel)
theorem kw_309 : (Jvm.Cond.instanceMethod ⟨"MosaicCatalogue", "trayCount", "()I"⟩) ∈ js_ws := js_ws_of 309 (by decide +kernel) (by decide +kernel)
theorem kw_310 : (Jvm.Cond.selects "MosaicCatalogue" ⟨"MosaicCatalogue", "trayCount", "()I"⟩ ⟨"MosaicCatalogue", "trayCount", "()I"⟩) ∈ js_ws := js_ws_of 310 (by decide +kernel) (by decide +kernel)
theorem kw_320 : (Jvm.Cond.methodLink "MosaicCatalogueLaw" 177 ⟨"MosaicCatalogue", "exists", "(I)Z"⟩) ∈ js_ws := js_ws_of 320 (by decide +kernel) (by decide +kernel)
theorem kw_321 : (Jvm.Cond.instanceMethod ⟨"MosaicCatalogue", "exists", "(I)Z"⟩) ∈ js_ws := js_ws_of 321 (by decide +kernel) (by decide +kernel)
theorem kw_322 : (Jvm.Cond.selects "MosaicCatalogue" ⟨"MosaicCatalogue", "exists", "(I)Z"⟩ ⟨"MosaicCatalogue", "exists", "(I)Z"⟩) ∈ js_ws := js_ws_of 322 (by decide +kernel) (by decide +kernel)
theorem kw_332 : (Jvm.Cond.methodLink "MosaicCatalogueLaw" 197 ⟨"MosaicCatalogue", "differentPatterns", "()I"⟩) ∈ js_ws := js_ws_of 332 (by decide +kernel) (by decide +kernel)
theorem kw_333 : (Jvm.Cond.instanceMethod ⟨"MosaicCatalogue", "differentPatterns", "()I"⟩) ∈ js_ws := js_ws_of 333 (by decide +kernel) (by decide +kernel)
theorem kw_334 : (Jvm.Cond.selects "MosaicCatalogue" ⟨"MosaicCatalogue", "differentPatterns", "()I"⟩ ⟨"MosaicCatalogue", "differentPatterns", "()I"⟩) ∈ js_ws := js_ws_of 334 (by decide +kernel) (by decide +kernel)
theorem kw_346 : (Jvm.Cond.methodLink "MosaicCatalogueLaw" 217 ⟨"MosaicCatalogue", "fill", "()I"⟩) ∈ js_ws := js_ws_of 346 (by decide +kernel) (by decide +kernel)
theorem kw_347 : (Jvm.Cond.instanceMethod ⟨"MosaicCatalogue", "fill", "()I"⟩) ∈ js_ws := js_ws_of 347 (by decide +kernel) (by decide +kernel)
theorem kw_348 : (Jvm.Cond.selects "MosaicCatalogue" ⟨"MosaicCatalogue", "fill", "()I"⟩ ⟨"MosaicCatalogue", "fill", "()I"⟩) ∈ js_ws := js_ws_of 348 (by decide +kernel) (by decide +kernel)
theorem kw_572 : (Jvm.Cond.methodLink "MosaicCatalogueLaw" 227 ⟨"MosaicCatalogue", "placedMask", "()J"⟩) ∈ js_ws := js_ws_of 572 (by decide +kernel) (by decide +kernel)
theorem kw_579 : (Jvm.Cond.methodLink "MosaicCatalogueLaw" 236 ⟨"MosaicCatalogue", "gapMask", "()J"⟩) ∈ js_ws := js_ws_of 579 (by decide +kernel) (by decide +kernel)
theorem kw_584 : (Jvm.Cond.methodLink "MosaicCatalogueLaw" 240 ⟨"MosaicCatalogue", "gapMaskByShifts", "()J"⟩) ∈ js_ws := js_ws_of 584 (by decide +kernel) (by decide +kernel)
theorem kw_592 : (Jvm.Cond.methodLink "MosaicCatalogueLaw" 244 ⟨"MosaicCatalogue", "gapCount", "()I"⟩) ∈ js_ws := js_ws_of 592 (by decide +kernel) (by decide +kernel)
theorem kw_593 : (Jvm.Cond.instanceMethod ⟨"MosaicCatalogue", "gapCount", "()I"⟩) ∈ js_ws := js_ws_of 593 (by decide +kernel) (by decide +kernel)
theorem kw_594 : (Jvm.Cond.selects "MosaicCatalogue" ⟨"MosaicCatalogue", "gapCount", "()I"⟩ ⟨"MosaicCatalogue", "gapCount", "()I"⟩) ∈ js_ws := js_ws_of 594 (by decide +kernel) (by decide +kernel)
theorem kw_603 : (Jvm.Cond.methodLink "MosaicCatalogueLaw" 248 ⟨"MosaicCatalogue", "joinCount", "()I"⟩) ∈ js_ws := js_ws_of 603 (by decide +kernel) (by decide +kernel)
theorem kw_604 : (Jvm.Cond.instanceMethod ⟨"MosaicCatalogue", "joinCount", "()I"⟩) ∈ js_ws := js_ws_of 604 (by decide +kernel) (by decide +kernel)
theorem kw_605 : (Jvm.Cond.selects "MosaicCatalogue" ⟨"MosaicCatalogue", "joinCount", "()I"⟩ ⟨"MosaicCatalogue", "joinCount", "()I"⟩) ∈ js_ws := js_ws_of 605 (by decide +kernel) (by decide +kernel)
theorem kw_617 : (Jvm.Cond.methodLink "MosaicCatalogueLaw" 252 ⟨"MosaicCatalogue", "clashCount", "()I"⟩) ∈ js_ws := js_ws_of 617 (by decide +kernel) (by decide +kernel)
theorem kw_618 : (Jvm.Cond.instanceMethod ⟨"MosaicCatalogue", "clashCount", "()I"⟩) ∈ js_ws := js_ws_of 618 (by decide +kernel) (by decide +kernel)
theorem kw_619 : (Jvm.Cond.selects "MosaicCatalogue" ⟨"MosaicCatalogue", "clashCount", "()I"⟩ ⟨"MosaicCatalogue", "clashCount", "()I"⟩) ∈ js_ws := js_ws_of 619 (by decide +kernel) (by decide +kernel)
theorem kw_621 : (Jvm.Cond.methodLink "MosaicCatalogueLaw" 278 ⟨"MosaicCatalogue", "groupCount", "()I"⟩) ∈ js_ws := js_ws_of 621 (by decide +kernel) (by decide +kernel)
theorem kw_637 : (Jvm.Cond.methodLink "MosaicCatalogueLaw" 282 ⟨"MosaicCatalogue", "groupCountByUnions", "()I"⟩) ∈ js_ws := js_ws_of 637 (by decide +kernel) (by decide +kernel)
theorem kw_654 : (Jvm.Cond.methodLink "MosaicCatalogueLaw" 306 ⟨"MosaicCatalogue", "isConsistent", "()Z"⟩) ∈ js_ws := js_ws_of 654 (by decide +kernel) (by decide +kernel)
theorem kw_655 : (Jvm.Cond.instanceMethod ⟨"MosaicCatalogue", "isConsistent", "()Z"⟩) ∈ js_ws := js_ws_of 655 (by decide +kernel) (by decide +kernel)
theorem kw_656 : (Jvm.Cond.selects "MosaicCatalogue" ⟨"MosaicCatalogue", "isConsistent", "()Z"⟩ ⟨"MosaicCatalogue", "isConsistent", "()Z"⟩) ∈ js_ws := js_ws_of 656 (by decide +kernel) (by decide +kernel)
theorem kw_661 : (Jvm.Cond.methodLink "MosaicCatalogueLaw" 335 ⟨"MosaicCatalogue", "undoCount", "()I"⟩) ∈ js_ws := js_ws_of 661 (by decide +kernel) (by decide +kernel)
theorem kw_662 : (Jvm.Cond.instanceMethod ⟨"MosaicCatalogue", "undoCount", "()I"⟩) ∈ js_ws := js_ws_of 662 (by decide +kernel) (by decide +kernel)
theorem kw_663 : (Jvm.Cond.selects "MosaicCatalogue" ⟨"MosaicCatalogue", "undoCount", "()I"⟩ ⟨"MosaicCatalogue", "undoCount", "()I"⟩) ∈ js_ws := js_ws_of 663 (by decide +kernel) (by decide +kernel)
theorem kw_665 : (Jvm.Cond.methodLink "MosaicCatalogueLaw" 339 ⟨"MosaicCatalogue", "save", "()I"⟩) ∈ js_ws := js_ws_of 665 (by decide +kernel) (by decide +kernel)
theorem kw_666 : (Jvm.Cond.instanceMethod ⟨"MosaicCatalogue", "save", "()I"⟩) ∈ js_ws := js_ws_of 666 (by decide +kernel) (by decide +kernel)
theorem kw_667 : (Jvm.Cond.selects "MosaicCatalogue" ⟨"MosaicCatalogue", "save", "()I"⟩ ⟨"MosaicCatalogue", "save", "()I"⟩) ∈ js_ws := js_ws_of 667 (by decide +kernel) (by decide +kernel)
theorem kw_670 : (Jvm.Cond.methodLink "MosaicCatalogueLaw" 153 ⟨"MosaicCatalogueLaw", "addFragment", "(LMosaicCatalogue;CIIII[J)I"⟩) ∈ js_ws := js_ws_of 670 (by decide +kernel) (by decide +kernel)
theorem kw_671 : (Jvm.Cond.static ⟨"MosaicCatalogueLaw", "addFragment", "(LMosaicCatalogue;CIIII[J)I"⟩) ∈ js_ws := js_ws_of 671 (by decide +kernel) (by decide +kernel)
theorem kw_673 : (Jvm.Cond.classLink "MosaicCatalogueLaw" 13 "java/lang/IllegalArgumentException") ∈ js_ws := js_ws_of 673 (by decide +kernel) (by decide +kernel)
theorem kw_674 : (Jvm.Cond.classLink "MosaicCatalogueLaw" 15 "java/lang/IllegalStateException") ∈ js_ws := js_ws_of 674 (by decide +kernel) (by decide +kernel)
theorem kw_675 : (Jvm.Cond.methodLink "MosaicCatalogueLaw" 7 ⟨"MosaicCatalogue", "addFragment", "(CIIII)I"⟩) ∈ js_ws := js_ws_of 675 (by decide +kernel) (by decide +kernel)
theorem kw_676 : (Jvm.Cond.instanceMethod ⟨"MosaicCatalogue", "addFragment", "(CIIII)I"⟩) ∈ js_ws := js_ws_of 676 (by decide +kernel) (by decide +kernel)
theorem kw_677 : (Jvm.Cond.selects "MosaicCatalogue" ⟨"MosaicCatalogue", "addFragment", "(CIIII)I"⟩ ⟨"MosaicCatalogue", "addFragment", "(CIIII)I"⟩) ∈ js_ws := js_ws_of 677 (by decide +kernel) (by decide +kernel)
theorem kw_689 : (Jvm.Cond.methodLink "MosaicCatalogueLaw" 162 ⟨"MosaicCatalogueLaw", "removeFragment", "(LMosaicCatalogue;I[J)I"⟩) ∈ js_ws := js_ws_of 689 (by decide +kernel) (by decide +kernel)
theorem kw_690 : (Jvm.Cond.static ⟨"MosaicCatalogueLaw", "removeFragment", "(LMosaicCatalogue;I[J)I"⟩) ∈ js_ws := js_ws_of 690 (by decide +kernel) (by decide +kernel)
theorem kw_692 : (Jvm.Cond.classLink "MosaicCatalogueLaw" 21 "java/util/NoSuchElementException") ∈ js_ws := js_ws_of 692 (by decide +kernel) (by decide +kernel)
theorem kw_693 : (Jvm.Cond.methodLink "MosaicCatalogueLaw" 17 ⟨"MosaicCatalogue", "removeFragment", "(I)I"⟩) ∈ js_ws := js_ws_of 693 (by decide +kernel) (by decide +kernel)
theorem kw_694 : (Jvm.Cond.instanceMethod ⟨"MosaicCatalogue", "removeFragment", "(I)I"⟩) ∈ js_ws := js_ws_of 694 (by decide +kernel) (by decide +kernel)
theorem kw_695 : (Jvm.Cond.selects "MosaicCatalogue" ⟨"MosaicCatalogue", "removeFragment", "(I)I"⟩ ⟨"MosaicCatalogue", "removeFragment", "(I)I"⟩) ∈ js_ws := js_ws_of 695 (by decide +kernel) (by decide +kernel)
theorem kw_701 : (Jvm.Cond.methodLink "MosaicCatalogueLaw" 174 ⟨"MosaicCatalogueLaw", "inTray", "(LMosaicCatalogue;I[J)I"⟩) ∈ js_ws := js_ws_of 701 (by decide +kernel) (by decide +kernel)
theorem kw_702 : (Jvm.Cond.static ⟨"MosaicCatalogueLaw", "inTray", "(LMosaicCatalogue;I[J)I"⟩) ∈ js_ws := js_ws_of 702 (by decide +kernel) (by decide +kernel)
theorem kw_704 : (Jvm.Cond.classLink "MosaicCatalogueLaw" 26 "java/lang/IndexOutOfBoundsException") ∈ js_ws := js_ws_of 704 (by decide +kernel) (by decide +kernel)
theorem kw_725 : (Jvm.Cond.methodLink "MosaicCatalogueLaw" 23 ⟨"MosaicCatalogue", "inTray", "(I)I"⟩) ∈ js_ws := js_ws_of 725 (by decide +kernel) (by decide +kernel)
theorem kw_726 : (Jvm.Cond.instanceMethod ⟨"MosaicCatalogue", "inTray", "(I)I"⟩) ∈ js_ws := js_ws_of 726 (by decide +kernel) (by decide +kernel)
theorem kw_727 : (Jvm.Cond.selects "MosaicCatalogue" ⟨"MosaicCatalogue", "inTray", "(I)I"⟩ ⟨"MosaicCatalogue", "inTray", "(I)I"⟩) ∈ js_ws := js_ws_of 727 (by decide +kernel) (by decide +kernel)
theorem kw_734 : (Jvm.Cond.methodLink "MosaicCatalogueLaw" 181 ⟨"MosaicCatalogueLaw", "colour", "(LMosaicCatalogue;I[J)I"⟩) ∈ js_ws := js_ws_of 734 (by decide +kernel) (by decide +kernel)
theorem kw_735 : (Jvm.Cond.static ⟨"MosaicCatalogueLaw", "colour", "(LMosaicCatalogue;I[J)I"⟩) ∈ js_ws := js_ws_of 735 (by decide +kernel) (by decide +kernel)
theorem kw_737 : (Jvm.Cond.methodLink "MosaicCatalogueLaw" 28 ⟨"MosaicCatalogue", "colour", "(I)C"⟩) ∈ js_ws := js_ws_of 737 (by decide +kernel) (by decide +kernel)
theorem kw_738 : (Jvm.Cond.instanceMethod ⟨"MosaicCatalogue", "colour", "(I)C"⟩) ∈ js_ws := js_ws_of 738 (by decide +kernel) (by decide +kernel)
theorem kw_739 : (Jvm.Cond.selects "MosaicCatalogue" ⟨"MosaicCatalogue", "colour", "(I)C"⟩ ⟨"MosaicCatalogue", "colour", "(I)C"⟩) ∈ js_ws := js_ws_of 739 (by decide +kernel) (by decide +kernel)
theorem kw_745 : (Jvm.Cond.methodLink "MosaicCatalogueLaw" 184 ⟨"MosaicCatalogueLaw", "turn", "(LMosaicCatalogue;I[J)I"⟩) ∈ js_ws := js_ws_of 745 (by decide +kernel) (by decide +kernel)
theorem kw_746 : (Jvm.Cond.static ⟨"MosaicCatalogueLaw", "turn", "(LMosaicCatalogue;I[J)I"⟩) ∈ js_ws := js_ws_of 746 (by decide +kernel) (by decide +kernel)
theorem kw_748 : (Jvm.Cond.methodLink "MosaicCatalogueLaw" 32 ⟨"MosaicCatalogue", "turn", "(I)I"⟩) ∈ js_ws := js_ws_of 748 (by decide +kernel) (by decide +kernel)
theorem kw_749 : (Jvm.Cond.instanceMethod ⟨"MosaicCatalogue", "turn", "(I)I"⟩) ∈ js_ws := js_ws_of 749 (by decide +kernel) (by decide +kernel)
theorem kw_750 : (Jvm.Cond.selects "MosaicCatalogue" ⟨"MosaicCatalogue", "turn", "(I)I"⟩ ⟨"MosaicCatalogue", "turn", "(I)I"⟩) ∈ js_ws := js_ws_of 750 (by decide +kernel) (by decide +kernel)
theorem kw_752 : (Jvm.Cond.methodLink "MosaicCatalogueLaw" 187 ⟨"MosaicCatalogueLaw", "edge", "(LMosaicCatalogue;II[J)I"⟩) ∈ js_ws := js_ws_of 752 (by decide +kernel) (by decide +kernel)
theorem kw_753 : (Jvm.Cond.static ⟨"MosaicCatalogueLaw", "edge", "(LMosaicCatalogue;II[J)I"⟩) ∈ js_ws := js_ws_of 753 (by decide +kernel) (by decide +kernel)
theorem kw_755 : (Jvm.Cond.methodLink "MosaicCatalogueLaw" 35 ⟨"MosaicCatalogue", "edge", "(II)I"⟩) ∈ js_ws := js_ws_of 755 (by decide +kernel) (by decide +kernel)
theorem kw_756 : (Jvm.Cond.instanceMethod ⟨"MosaicCatalogue", "edge", "(II)I"⟩) ∈ js_ws := js_ws_of 756 (by decide +kernel) (by decide +kernel)
theorem kw_757 : (Jvm.Cond.selects "MosaicCatalogue" ⟨"MosaicCatalogue", "edge", "(II)I"⟩ ⟨"MosaicCatalogue", "edge", "(II)I"⟩) ∈ js_ws := js_ws_of 757 (by decide +kernel) (by decide +kernel)
theorem kw_764 : (Jvm.Cond.methodLink "MosaicCatalogueLaw" 191 ⟨"MosaicCatalogueLaw", "isPlaced", "(LMosaicCatalogue;I[J)I"⟩) ∈ js_ws := js_ws_of 764 (by decide +kernel) (by decide +kernel)
theorem kw_765 : (Jvm.Cond.static ⟨"MosaicCatalogueLaw", "isPlaced", "(LMosaicCatalogue;I[J)I"⟩) ∈ js_ws := js_ws_of 765 (by decide +kernel) (by decide +kernel)
theorem kw_767 : (Jvm.Cond.methodLink "MosaicCatalogueLaw" 39 ⟨"MosaicCatalogue", "isPlaced", "(I)Z"⟩) ∈ js_ws := js_ws_of 767 (by decide +kernel) (by decide +kernel)
theorem kw_768 : (Jvm.Cond.instanceMethod ⟨"MosaicCatalogue", "isPlaced", "(I)Z"⟩) ∈ js_ws := js_ws_of 768 (by decide +kernel) (by decide +kernel)
theorem kw_769 : (Jvm.Cond.selects "MosaicCatalogue" ⟨"MosaicCatalogue", "isPlaced", "(I)Z"⟩ ⟨"MosaicCatalogue", "isPlaced", "(I)Z"⟩) ∈ js_ws := js_ws_of 769 (by decide +kernel) (by decide +kernel)
theorem kw_772 : (Jvm.Cond.methodLink "MosaicCatalogueLaw" 194 ⟨"MosaicCatalogueLaw", "cell", "(LMosaicCatalogue;I[J)I"⟩) ∈ js_ws := js_ws_of 772 (by decide +kernel) (by decide +kernel)
theorem kw_773 : (Jvm.Cond.static ⟨"MosaicCatalogueLaw", "cell", "(LMosaicCatalogue;I[J)I"⟩) ∈ js_ws := js_ws_of 773 (by decide +kernel) (by decide +kernel)
theorem kw_775 : (Jvm.Cond.methodLink "MosaicCatalogueLaw" 43 ⟨"MosaicCatalogue", "cell", "(I)I"⟩) ∈ js_ws := js_ws_of 775 (by decide +kernel) (by decide +kernel)
theorem kw_776 : (Jvm.Cond.instanceMethod ⟨"MosaicCatalogue", "cell", "(I)I"⟩) ∈ js_ws := js_ws_of 776 (by decide +kernel) (by decide +kernel)
theorem kw_777 : (Jvm.Cond.selects "MosaicCatalogue" ⟨"MosaicCatalogue", "cell", "(I)I"⟩ ⟨"MosaicCatalogue", "cell", "(I)I"⟩) ∈ js_ws := js_ws_of 777 (by decide +kernel) (by decide +kernel)
theorem kw_784 : (Jvm.Cond.methodLink "MosaicCatalogueLaw" 201 ⟨"MosaicCatalogueLaw", "place", "(LMosaicCatalogue;III[J)I"⟩) ∈ js_ws := js_ws_of 784 (by decide +kernel) (by decide +kernel)
theorem kw_785 : (Jvm.Cond.static ⟨"MosaicCatalogueLaw", "place", "(LMosaicCatalogue;III[J)I"⟩) ∈ js_ws := js_ws_of 785 (by decide +kernel) (by decide +kernel)
theorem kw_787 : (Jvm.Cond.methodLink "MosaicCatalogueLaw" 46 ⟨"MosaicCatalogue", "place", "(III)I"⟩) ∈ js_ws := js_ws_of 787 (by decide +kernel) (by decide +kernel)
theorem kw_788 : (Jvm.Cond.instanceMethod ⟨"MosaicCatalogue", "place", "(III)I"⟩) ∈ js_ws := js_ws_of 788 (by decide +kernel) (by decide +kernel)
theorem kw_789 : (Jvm.Cond.selects "MosaicCatalogue" ⟨"MosaicCatalogue", "place", "(III)I"⟩ ⟨"MosaicCatalogue", "place", "(III)I"⟩) ∈ js_ws := js_ws_of 789 (by decide +kernel) (by decide +kernel)
theorem kw_801 : (Jvm.Cond.methodLink "MosaicCatalogueLaw" 205 ⟨"MosaicCatalogueLaw", "takeBack", "(LMosaicCatalogue;I[J)I"⟩) ∈ js_ws := js_ws_of 801 (by decide +kernel) (by decide +kernel)
theorem kw_802 : (Jvm.Cond.static ⟨"MosaicCatalogueLaw", "takeBack", "(LMosaicCatalogue;I[J)I"⟩) ∈ js_ws := js_ws_of 802 (by decide +kernel) (by decide +kernel)
theorem kw_804 : (Jvm.Cond.methodLink "MosaicCatalogueLaw" 50 ⟨"MosaicCatalogue", "takeBack", "(I)I"⟩) ∈ js_ws := js_ws_of 804 (by decide +kernel) (by decide +kernel)
theorem kw_805 : (Jvm.Cond.instanceMethod ⟨"MosaicCatalogue", "takeBack", "(I)I"⟩) ∈ js_ws := js_ws_of 805 (by decide +kernel) (by decide +kernel)
theorem kw_806 : (Jvm.Cond.selects "MosaicCatalogue" ⟨"MosaicCatalogue", "takeBack", "(I)I"⟩ ⟨"MosaicCatalogue", "takeBack", "(I)I"⟩) ∈ js_ws := js_ws_of 806 (by decide +kernel) (by decide +kernel)
theorem kw_812 : (Jvm.Cond.methodLink "MosaicCatalogueLaw" 208 ⟨"MosaicCatalogueLaw", "setTurn", "(LMosaicCatalogue;II[J)I"⟩) ∈ js_ws := js_ws_of 812 (by decide +kernel) (by decide +kernel)
theorem kw_813 : (Jvm.Cond.static ⟨"MosaicCatalogueLaw", "setTurn", "(LMosaicCatalogue;II[J)I"⟩) ∈ js_ws := js_ws_of 813 (by decide +kernel) (by decide +kernel)
theorem kw_815 : (Jvm.Cond.methodLink "MosaicCatalogueLaw" 53 ⟨"MosaicCatalogue", "setTurn", "(II)I"⟩) ∈ js_ws := js_ws_of 815 (by decide +kernel) (by decide +kernel)
theorem kw_816 : (Jvm.Cond.instanceMethod ⟨"MosaicCatalogue", "setTurn", "(II)I"⟩) ∈ js_ws := js_ws_of 816 (by decide +kernel) (by decide +kernel)
theorem kw_817 : (Jvm.Cond.selects "MosaicCatalogue" ⟨"MosaicCatalogue", "setTurn", "(II)I"⟩ ⟨"MosaicCatalogue", "setTurn", "(II)I"⟩) ∈ js_ws := js_ws_of 817 (by decide +kernel) (by decide +kernel)
theorem kw_823 : (Jvm.Cond.methodLink "MosaicCatalogueLaw" 211 ⟨"MosaicCatalogueLaw", "swap", "(LMosaicCatalogue;II[J)I"⟩) ∈ js_ws := js_ws_of 823 (by decide +kernel) (by decide +kernel)
theorem kw_824 : (Jvm.Cond.static ⟨"MosaicCatalogueLaw", "swap", "(LMosaicCatalogue;II[J)I"⟩) ∈ js_ws := js_ws_of 824 (by decide +kernel) (by decide +kernel)
theorem kw_826 : (Jvm.Cond.methodLink "MosaicCatalogueLaw" 56 ⟨"MosaicCatalogue", "swap", "(II)I"⟩) ∈ js_ws := js_ws_of 826 (by decide +kernel) (by decide +kernel)
theorem kw_827 : (Jvm.Cond.instanceMethod ⟨"MosaicCatalogue", "swap", "(II)I"⟩) ∈ js_ws := js_ws_of 827 (by decide +kernel) (by decide +kernel)
theorem kw_828 : (Jvm.Cond.selects "MosaicCatalogue" ⟨"MosaicCatalogue", "swap", "(II)I"⟩ ⟨"MosaicCatalogue", "swap", "(II)I"⟩) ∈ js_ws := js_ws_of 828 (by decide +kernel) (by decide +kernel)
theorem kw_835 : (Jvm.Cond.methodLink "MosaicCatalogueLaw" 214 ⟨"MosaicCatalogueLaw", "placeGuess", "(LMosaicCatalogue;II[J)I"⟩) ∈ js_ws := js_ws_of 835 (by decide +kernel) (by decide +kernel)
theorem kw_836 : (Jvm.Cond.static ⟨"MosaicCatalogueLaw", "placeGuess", "(LMosaicCatalogue;II[J)I"⟩) ∈ js_ws := js_ws_of 836 (by decide +kernel) (by decide +kernel)
theorem kw_838 : (Jvm.Cond.classLink "MosaicCatalogueLaw" 62 "java/lang/UnsupportedOperationException") ∈ js_ws := js_ws_of 838 (by decide +kernel) (by decide +kernel)
theorem kw_839 : (Jvm.Cond.methodLink "MosaicCatalogueLaw" 59 ⟨"MosaicCatalogue", "placeGuess", "(II)I"⟩) ∈ js_ws := js_ws_of 839 (by decide +kernel) (by decide +kernel)
theorem kw_840 : (Jvm.Cond.instanceMethod ⟨"MosaicCatalogue", "placeGuess", "(II)I"⟩) ∈ js_ws := js_ws_of 840 (by decide +kernel) (by decide +kernel)
theorem kw_841 : (Jvm.Cond.selects "MosaicCatalogue" ⟨"MosaicCatalogue", "placeGuess", "(II)I"⟩ ⟨"MosaicCatalogue", "placeGuess", "(II)I"⟩) ∈ js_ws := js_ws_of 841 (by decide +kernel) (by decide +kernel)
theorem kw_878 : (Jvm.Cond.methodLink "MosaicCatalogueLaw" 221 ⟨"MosaicCatalogueLaw", "isEmpty", "(LMosaicCatalogue;II[J)I"⟩) ∈ js_ws := js_ws_of 878 (by decide +kernel) (by decide +kernel)
theorem kw_879 : (Jvm.Cond.static ⟨"MosaicCatalogueLaw", "isEmpty", "(LMosaicCatalogue;II[J)I"⟩) ∈ js_ws := js_ws_of 879 (by decide +kernel) (by decide +kernel)
theorem kw_881 : (Jvm.Cond.methodLink "MosaicCatalogueLaw" 64 ⟨"MosaicCatalogue", "isEmpty", "(II)Z"⟩) ∈ js_ws := js_ws_of 881 (by decide +kernel) (by decide +kernel)
theorem kw_882 : (Jvm.Cond.instanceMethod ⟨"MosaicCatalogue", "isEmpty", "(II)Z"⟩) ∈ js_ws := js_ws_of 882 (by decide +kernel) (by decide +kernel)
theorem kw_883 : (Jvm.Cond.selects "MosaicCatalogue" ⟨"MosaicCatalogue", "isEmpty", "(II)Z"⟩ ⟨"MosaicCatalogue", "isEmpty", "(II)Z"⟩) ∈ js_ws := js_ws_of 883 (by decide +kernel) (by decide +kernel)
theorem kw_885 : (Jvm.Cond.methodLink "MosaicCatalogueLaw" 224 ⟨"MosaicCatalogueLaw", "fragmentAt", "(LMosaicCatalogue;II[J)I"⟩) ∈ js_ws := js_ws_of 885 (by decide +kernel) (by decide +kernel)
theorem kw_886 : (Jvm.Cond.static ⟨"MosaicCatalogueLaw", "fragmentAt", "(LMosaicCatalogue;II[J)I"⟩) ∈ js_ws := js_ws_of 886 (by decide +kernel) (by decide +kernel)
theorem kw_888 : (Jvm.Cond.methodLink "MosaicCatalogueLaw" 68 ⟨"MosaicCatalogue", "fragmentAt", "(II)I"⟩) ∈ js_ws := js_ws_of 888 (by decide +kernel) (by decide +kernel)
theorem kw_889 : (Jvm.Cond.instanceMethod ⟨"MosaicCatalogue", "fragmentAt", "(II)I"⟩) ∈ js_ws := js_ws_of 889 (by decide +kernel) (by decide +kernel)
theorem kw_890 : (Jvm.Cond.selects "MosaicCatalogue" ⟨"MosaicCatalogue", "fragmentAt", "(II)I"⟩ ⟨"MosaicCatalogue", "fragmentAt", "(II)I"⟩) ∈ js_ws := js_ws_of 890 (by decide +kernel) (by decide +kernel)
theorem kw_893 : (Jvm.Cond.methodLink "MosaicCatalogueLaw" 232 ⟨"MosaicCatalogueLaw", "colourMask", "(LMosaicCatalogue;C[J)I"⟩) ∈ js_ws := js_ws_of 893 (by decide +kernel) (by decide +kernel)
theorem kw_894 : (Jvm.Cond.static ⟨"MosaicCatalogueLaw", "colourMask", "(LMosaicCatalogue;C[J)I"⟩) ∈ js_ws := js_ws_of 894 (by decide +kernel) (by decide +kernel)
theorem kw_896 : (Jvm.Cond.methodLink "MosaicCatalogueLaw" 71 ⟨"MosaicCatalogue", "colourMask", "(C)J"⟩) ∈ js_ws := js_ws_of 896 (by decide +kernel) (by decide +kernel)
theorem kw_897 : (Jvm.Cond.instanceMethod ⟨"MosaicCatalogue", "colourMask", "(C)J"⟩) ∈ js_ws := js_ws_of 897 (by decide +kernel) (by decide +kernel)
theorem kw_898 : (Jvm.Cond.selects "MosaicCatalogue" ⟨"MosaicCatalogue", "colourMask", "(C)J"⟩ ⟨"MosaicCatalogue", "colourMask", "(C)J"⟩) ∈ js_ws := js_ws_of 898 (by decide +kernel) (by decide +kernel)
theorem kw_902 : (Jvm.Cond.methodLink "MosaicCatalogueLaw" 256 ⟨"MosaicCatalogueLaw", "fitsAt", "(LMosaicCatalogue;II[J)I"⟩) ∈ js_ws := js_ws_of 902 (by decide +kernel) (by decide +kernel)
theorem kw_903 : (Jvm.Cond.static ⟨"MosaicCatalogueLaw", "fitsAt", "(LMosaicCatalogue;II[J)I"⟩) ∈ js_ws := js_ws_of 903 (by decide +kernel) (by decide +kernel)
theorem kw_905 : (Jvm.Cond.methodLink "MosaicCatalogueLaw" 75 ⟨"MosaicCatalogue", "fitsAt", "(II)Z"⟩) ∈ js_ws := js_ws_of 905 (by decide +kernel) (by decide +kernel)
theorem kw_906 : (Jvm.Cond.instanceMethod ⟨"MosaicCatalogue", "fitsAt", "(II)Z"⟩) ∈ js_ws := js_ws_of 906 (by decide +kernel) (by decide +kernel)
theorem kw_907 : (Jvm.Cond.selects "MosaicCatalogue" ⟨"MosaicCatalogue", "fitsAt", "(II)Z"⟩ ⟨"MosaicCatalogue", "fitsAt", "(II)Z"⟩) ∈ js_ws := js_ws_of 907 (by decide +kernel) (by decide +kernel)
theorem kw_910 : (Jvm.Cond.methodLink "MosaicCatalogueLaw" 259 ⟨"MosaicCatalogueLaw", "clashesOf", "(LMosaicCatalogue;I[J)I"⟩) ∈ js_ws := js_ws_of 910 (by decide +kernel) (by decide +kernel)
theorem kw_911 : (Jvm.Cond.static ⟨"MosaicCatalogueLaw", "clashesOf", "(LMosaicCatalogue;I[J)I"⟩) ∈ js_ws := js_ws_of 911 (by decide +kernel) (by decide +kernel)
theorem kw_913 : (Jvm.Cond.methodLink "MosaicCatalogueLaw" 78 ⟨"MosaicCatalogue", "clashesOf", "(I)I"⟩) ∈ js_ws := js_ws_of 913 (by decide +kernel) (by decide +kernel)
theorem kw_914 : (Jvm.Cond.instanceMethod ⟨"MosaicCatalogue", "clashesOf", "(I)I"⟩) ∈ js_ws := js_ws_of 914 (by decide +kernel) (by decide +kernel)
theorem kw_915 : (Jvm.Cond.selects "MosaicCatalogue" ⟨"MosaicCatalogue", "clashesOf", "(I)I"⟩ ⟨"MosaicCatalogue", "clashesOf", "(I)I"⟩) ∈ js_ws := js_ws_of 915 (by decide +kernel) (by decide +kernel)
theorem kw_918 : (Jvm.Cond.methodLink "MosaicCatalogueLaw" 262 ⟨"MosaicCatalogueLaw", "outlineSize", "(LMosaicCatalogue;II[J)I"⟩) ∈ js_ws := js_ws_of 918 (by decide +kernel) (by decide +kernel)
theorem kw_919 : (Jvm.Cond.static ⟨"MosaicCatalogueLaw", "outlineSize", "(LMosaicCatalogue;II[J)I"⟩) ∈ js_ws := js_ws_of 919 (by decide +kernel) (by decide +kernel)
theorem kw_921 : (Jvm.Cond.methodLink "MosaicCatalogueLaw" 81 ⟨"MosaicCatalogue", "outlineSize", "(II)I"⟩) ∈ js_ws := js_ws_of 921 (by decide +kernel) (by decide +kernel)
theorem kw_922 : (Jvm.Cond.instanceMethod ⟨"MosaicCatalogue", "outlineSize", "(II)I"⟩) ∈ js_ws := js_ws_of 922 (by decide +kernel) (by decide +kernel)
theorem kw_923 : (Jvm.Cond.selects "MosaicCatalogue" ⟨"MosaicCatalogue", "outlineSize", "(II)I"⟩ ⟨"MosaicCatalogue", "outlineSize", "(II)I"⟩) ∈ js_ws := js_ws_of 923 (by decide +kernel) (by decide +kernel)
theorem kw_926 : (Jvm.Cond.methodLink "MosaicCatalogueLaw" 265 ⟨"MosaicCatalogueLaw", "weight", "(LMosaicCatalogue;IIII[J)I"⟩) ∈ js_ws := js_ws_of 926 (by decide +kernel) (by decide +kernel)
theorem kw_927 : (Jvm.Cond.static ⟨"MosaicCatalogueLaw", "weight", "(LMosaicCatalogue;IIII[J)I"⟩) ∈ js_ws := js_ws_of 927 (by decide +kernel) (by decide +kernel)
theorem kw_929 : (Jvm.Cond.methodLink "MosaicCatalogueLaw" 84 ⟨"MosaicCatalogue", "weight", "(IIII)I"⟩) ∈ js_ws := js_ws_of 929 (by decide +kernel) (by decide +kernel)
theorem kw_930 : (Jvm.Cond.instanceMethod ⟨"MosaicCatalogue", "weight", "(IIII)I"⟩) ∈ js_ws := js_ws_of 930 (by decide +kernel) (by decide +kernel)
theorem kw_931 : (Jvm.Cond.selects "MosaicCatalogue" ⟨"MosaicCatalogue", "weight", "(IIII)I"⟩ ⟨"MosaicCatalogue", "weight", "(IIII)I"⟩) ∈ js_ws := js_ws_of 931 (by decide +kernel) (by decide +kernel)
theorem kw_939 : (Jvm.Cond.methodLink "MosaicCatalogueLaw" 269 ⟨"MosaicCatalogueLaw", "bestTurn", "(LMosaicCatalogue;III[J)I"⟩) ∈ js_ws := js_ws_of 939 (by decide +kernel) (by decide +kernel)
theorem kw_940 : (Jvm.Cond.static ⟨"MosaicCatalogueLaw", "bestTurn", "(LMosaicCatalogue;III[J)I"⟩) ∈ js_ws := js_ws_of 940 (by decide +kernel) (by decide +kernel)
theorem kw_942 : (Jvm.Cond.methodLink "MosaicCatalogueLaw" 88 ⟨"MosaicCatalogue", "bestTurn", "(III)I"⟩) ∈ js_ws := js_ws_of 942 (by decide +kernel) (by decide +kernel)
theorem kw_943 : (Jvm.Cond.instanceMethod ⟨"MosaicCatalogue", "bestTurn", "(III)I"⟩) ∈ js_ws := js_ws_of 943 (by decide +kernel) (by decide +kernel)
theorem kw_944 : (Jvm.Cond.selects "MosaicCatalogue" ⟨"MosaicCatalogue", "bestTurn", "(III)I"⟩ ⟨"MosaicCatalogue", "bestTurn", "(III)I"⟩) ∈ js_ws := js_ws_of 944 (by decide +kernel) (by decide +kernel)
theorem kw_947 : (Jvm.Cond.methodLink "MosaicCatalogueLaw" 272 ⟨"MosaicCatalogueLaw", "bestGuess", "(LMosaicCatalogue;II[J)I"⟩) ∈ js_ws := js_ws_of 947 (by decide +kernel) (by decide +kernel)
theorem kw_948 : (Jvm.Cond.static ⟨"MosaicCatalogueLaw", "bestGuess", "(LMosaicCatalogue;II[J)I"⟩) ∈ js_ws := js_ws_of 948 (by decide +kernel) (by decide +kernel)
theorem kw_950 : (Jvm.Cond.methodLink "MosaicCatalogueLaw" 91 ⟨"MosaicCatalogue", "bestGuess", "(II)I"⟩) ∈ js_ws := js_ws_of 950 (by decide +kernel) (by decide +kernel)
theorem kw_951 : (Jvm.Cond.instanceMethod ⟨"MosaicCatalogue", "bestGuess", "(II)I"⟩) ∈ js_ws := js_ws_of 951 (by decide +kernel) (by decide +kernel)
theorem kw_952 : (Jvm.Cond.selects "MosaicCatalogue" ⟨"MosaicCatalogue", "bestGuess", "(II)I"⟩ ⟨"MosaicCatalogue", "bestGuess", "(II)I"⟩) ∈ js_ws := js_ws_of 952 (by decide +kernel) (by decide +kernel)
theorem kw_954 : (Jvm.Cond.methodLink "MosaicCatalogueLaw" 275 ⟨"MosaicCatalogueLaw", "guessByWeight", "(LMosaicCatalogue;III[J)I"⟩) ∈ js_ws := js_ws_of 954 (by decide +kernel) (by decide +kernel)
theorem kw_955 : (Jvm.Cond.static ⟨"MosaicCatalogueLaw", "guessByWeight", "(LMosaicCatalogue;III[J)I"⟩) ∈ js_ws := js_ws_of 955 (by decide +kernel) (by decide +kernel)
theorem kw_957 : (Jvm.Cond.methodLink "MosaicCatalogueLaw" 94 ⟨"MosaicCatalogue", "guessByWeight", "(III)I"⟩) ∈ js_ws := js_ws_of 957 (by decide +kernel) (by decide +kernel)
theorem kw_958 : (Jvm.Cond.instanceMethod ⟨"MosaicCatalogue", "guessByWeight", "(III)I"⟩) ∈ js_ws := js_ws_of 958 (by decide +kernel) (by decide +kernel)
theorem kw_959 : (Jvm.Cond.selects "MosaicCatalogue" ⟨"MosaicCatalogue", "guessByWeight", "(III)I"⟩ ⟨"MosaicCatalogue", "guessByWeight", "(III)I"⟩) ∈ js_ws := js_ws_of 959 (by decide +kernel) (by decide +kernel)
theorem kw_961 : (Jvm.Cond.methodLink "MosaicCatalogueLaw" 286 ⟨"MosaicCatalogueLaw", "groupSize", "(LMosaicCatalogue;I[J)I"⟩) ∈ js_ws := js_ws_of 961 (by decide +kernel) (by decide +kernel)
theorem kw_962 : (Jvm.Cond.static ⟨"MosaicCatalogueLaw", "groupSize", "(LMosaicCatalogue;I[J)I"⟩) ∈ js_ws := js_ws_of 962 (by decide +kernel) (by decide +kernel)
theorem kw_964 : (Jvm.Cond.methodLink "MosaicCatalogueLaw" 97 ⟨"MosaicCatalogue", "groupSize", "(I)I"⟩) ∈ js_ws := js_ws_of 964 (by decide +kernel) (by decide +kernel)
theorem kw_965 : (Jvm.Cond.instanceMethod ⟨"MosaicCatalogue", "groupSize", "(I)I"⟩) ∈ js_ws := js_ws_of 965 (by decide +kernel) (by decide +kernel)
theorem kw_966 : (Jvm.Cond.selects "MosaicCatalogue" ⟨"MosaicCatalogue", "groupSize", "(I)I"⟩ ⟨"MosaicCatalogue", "groupSize", "(I)I"⟩) ∈ js_ws := js_ws_of 966 (by decide +kernel) (by decide +kernel)
theorem kw_973 : (Jvm.Cond.methodLink "MosaicCatalogueLaw" 289 ⟨"MosaicCatalogueLaw", "groupMask", "(LMosaicCatalogue;I[J)I"⟩) ∈ js_ws := js_ws_of 973 (by decide +kernel) (by decide +kernel)
theorem kw_974 : (Jvm.Cond.static ⟨"MosaicCatalogueLaw", "groupMask", "(LMosaicCatalogue;I[J)I"⟩) ∈ js_ws := js_ws_of 974 (by decide +kernel) (by decide +kernel)
theorem kw_976 : (Jvm.Cond.methodLink "MosaicCatalogueLaw" 100 ⟨"MosaicCatalogue", "groupMask", "(I)J"⟩) ∈ js_ws := js_ws_of 976 (by decide +kernel) (by decide +kernel)
theorem kw_977 : (Jvm.Cond.methodLink "MosaicCatalogueLaw" 292 ⟨"MosaicCatalogueLaw", "largestGroup", "(LMosaicCatalogue;[J)I"⟩) ∈ js_ws := js_ws_of 977 (by decide +kernel) (by decide +kernel)
theorem kw_978 : (Jvm.Cond.static ⟨"MosaicCatalogueLaw", "largestGroup", "(LMosaicCatalogue;[J)I"⟩) ∈ js_ws := js_ws_of 978 (by decide +kernel) (by decide +kernel)
theorem kw_980 : (Jvm.Cond.methodLink "MosaicCatalogueLaw" 104 ⟨"MosaicCatalogue", "largestGroup", "()I"⟩) ∈ js_ws := js_ws_of 980 (by decide +kernel) (by decide +kernel)
theorem kw_981 : (Jvm.Cond.instanceMethod ⟨"MosaicCatalogue", "largestGroup", "()I"⟩) ∈ js_ws := js_ws_of 981 (by decide +kernel) (by decide +kernel)
theorem kw_982 : (Jvm.Cond.selects "MosaicCatalogue" ⟨"MosaicCatalogue", "largestGroup", "()I"⟩ ⟨"MosaicCatalogue", "largestGroup", "()I"⟩) ∈ js_ws := js_ws_of 982 (by decide +kernel) (by decide +kernel)
theorem kw_991 : (Jvm.Cond.methodLink "MosaicCatalogueLaw" 296 ⟨"MosaicCatalogueLaw", "joinFraction", "(LMosaicCatalogue;[D)I"⟩) ∈ js_ws := js_ws_of 991 (by decide +kernel) (by decide +kernel)
theorem kw_992 : (Jvm.Cond.static ⟨"MosaicCatalogueLaw", "joinFraction", "(LMosaicCatalogue;[D)I"⟩) ∈ js_ws := js_ws_of 992 (by decide +kernel) (by decide +kernel)
theorem kw_994 : (Jvm.Cond.classLink "MosaicCatalogueLaw" 112 "java/lang/ArithmeticException") ∈ js_ws := js_ws_of 994 (by decide +kernel) (by decide +kernel)
theorem kw_1008 : (Jvm.Cond.methodLink "MosaicCatalogueLaw" 108 ⟨"MosaicCatalogue", "joinFraction", "()F"⟩) ∈ js_ws := js_ws_of 1008 (by decide +kernel) (by decide +kernel)
theorem kw_1015 : (Jvm.Cond.methodLink "MosaicCatalogueLaw" 300 ⟨"MosaicCatalogueLaw", "joinFractionBits", "(LMosaicCatalogue;[J)I"⟩) ∈ js_ws := js_ws_of 1015 (by decide +kernel) (by decide +kernel)
theorem kw_1016 : (Jvm.Cond.static ⟨"MosaicCatalogueLaw", "joinFractionBits", "(LMosaicCatalogue;[J)I"⟩) ∈ js_ws := js_ws_of 1016 (by decide +kernel) (by decide +kernel)
theorem kw_1018 : (Jvm.Cond.methodLink "MosaicCatalogueLaw" 114 ⟨"MosaicCatalogue", "joinFractionBits", "()I"⟩) ∈ js_ws := js_ws_of 1018 (by decide +kernel) (by decide +kernel)
theorem kw_1019 : (Jvm.Cond.instanceMethod ⟨"MosaicCatalogue", "joinFractionBits", "()I"⟩) ∈ js_ws := js_ws_of 1019 (by decide +kernel) (by decide +kernel)
theorem kw_1020 : (Jvm.Cond.selects "MosaicCatalogue" ⟨"MosaicCatalogue", "joinFractionBits", "()I"⟩ ⟨"MosaicCatalogue", "joinFractionBits", "()I"⟩) ∈ js_ws := js_ws_of 1020 (by decide +kernel) (by decide +kernel)
theorem kw_1027 : (Jvm.Cond.methodLink "MosaicCatalogueLaw" 303 ⟨"MosaicCatalogueLaw", "meanJoins", "(LMosaicCatalogue;[D)I"⟩) ∈ js_ws := js_ws_of 1027 (by decide +kernel) (by decide +kernel)
theorem kw_1028 : (Jvm.Cond.static ⟨"MosaicCatalogueLaw", "meanJoins", "(LMosaicCatalogue;[D)I"⟩) ∈ js_ws := js_ws_of 1028 (by decide +kernel) (by decide +kernel)
theorem kw_1030 : (Jvm.Cond.methodLink "MosaicCatalogueLaw" 117 ⟨"MosaicCatalogue", "meanJoins", "()D"⟩) ∈ js_ws := js_ws_of 1030 (by decide +kernel) (by decide +kernel)
theorem kw_1031 : (Jvm.Cond.instanceMethod ⟨"MosaicCatalogue", "meanJoins", "()D"⟩) ∈ js_ws := js_ws_of 1031 (by decide +kernel) (by decide +kernel)
theorem kw_1032 : (Jvm.Cond.selects "MosaicCatalogue" ⟨"MosaicCatalogue", "meanJoins", "()D"⟩ ⟨"MosaicCatalogue", "meanJoins", "()D"⟩) ∈ js_ws := js_ws_of 1032 (by decide +kernel) (by decide +kernel)
theorem kw_1034 : (Jvm.Cond.methodLink "MosaicCatalogueLaw" 311 ⟨"MosaicCatalogueLaw", "writeRow", "(LMosaicCatalogue;I[J)I"⟩) ∈ js_ws := js_ws_of 1034 (by decide +kernel) (by decide +kernel)
theorem kw_1035 : (Jvm.Cond.static ⟨"MosaicCatalogueLaw", "writeRow", "(LMosaicCatalogue;I[J)I"⟩) ∈ js_ws := js_ws_of 1035 (by decide +kernel) (by decide +kernel)
theorem kw_1037 : (Jvm.Cond.methodLink "MosaicCatalogueLaw" 121 ⟨"MosaicCatalogue", "writeRow", "(I)I"⟩) ∈ js_ws := js_ws_of 1037 (by decide +kernel) (by decide +kernel)
theorem kw_1038 : (Jvm.Cond.instanceMethod ⟨"MosaicCatalogue", "writeRow", "(I)I"⟩) ∈ js_ws := js_ws_of 1038 (by decide +kernel) (by decide +kernel)
theorem kw_1039 : (Jvm.Cond.selects "MosaicCatalogue" ⟨"MosaicCatalogue", "writeRow", "(I)I"⟩ ⟨"MosaicCatalogue", "writeRow", "(I)I"⟩) ∈ js_ws := js_ws_of 1039 (by decide +kernel) (by decide +kernel)
theorem kw_1045 : (Jvm.Cond.methodLink "MosaicCatalogueLaw" 314 ⟨"MosaicCatalogueLaw", "writeFragment", "(LMosaicCatalogue;I[J)I"⟩) ∈ js_ws := js_ws_of 1045 (by decide +kernel) (by decide +kernel)
theorem kw_1046 : (Jvm.Cond.static ⟨"MosaicCatalogueLaw", "writeFragment", "(LMosaicCatalogue;I[J)I"⟩) ∈ js_ws := js_ws_of 1046 (by decide +kernel) (by decide +kernel)
theorem kw_1048 : (Jvm.Cond.methodLink "MosaicCatalogueLaw" 124 ⟨"MosaicCatalogue", "writeFragment", "(I)I"⟩) ∈ js_ws := js_ws_of 1048 (by decide +kernel) (by decide +kernel)
theorem kw_1049 : (Jvm.Cond.instanceMethod ⟨"MosaicCatalogue", "writeFragment", "(I)I"⟩) ∈ js_ws := js_ws_of 1049 (by decide +kernel) (by decide +kernel)
theorem kw_1050 : (Jvm.Cond.selects "MosaicCatalogue" ⟨"MosaicCatalogue", "writeFragment", "(I)I"⟩ ⟨"MosaicCatalogue", "writeFragment", "(I)I"⟩) ∈ js_ws := js_ws_of 1050 (by decide +kernel) (by decide +kernel)
theorem kw_1055 : (Jvm.Cond.methodLink "MosaicCatalogueLaw" 317 ⟨"MosaicCatalogueLaw", "outputCharacter", "(LMosaicCatalogue;I[J)I"⟩) ∈ js_ws := js_ws_of 1055 (by decide +kernel) (by decide +kernel)
theorem kw_1056 : (Jvm.Cond.static ⟨"MosaicCatalogueLaw", "outputCharacter", "(LMosaicCatalogue;I[J)I"⟩) ∈ js_ws := js_ws_of 1056 (by decide +kernel) (by decide +kernel)
theorem kw_1058 : (Jvm.Cond.methodLink "MosaicCatalogueLaw" 127 ⟨"MosaicCatalogue", "outputCharacter", "(I)C"⟩) ∈ js_ws := js_ws_of 1058 (by decide +kernel) (by decide +kernel)
theorem kw_1059 : (Jvm.Cond.instanceMethod ⟨"MosaicCatalogue", "outputCharacter", "(I)C"⟩) ∈ js_ws := js_ws_of 1059 (by decide +kernel) (by decide +kernel)
theorem kw_1060 : (Jvm.Cond.selects "MosaicCatalogue" ⟨"MosaicCatalogue", "outputCharacter", "(I)C"⟩ ⟨"MosaicCatalogue", "outputCharacter", "(I)C"⟩) ∈ js_ws := js_ws_of 1060 (by decide +kernel) (by decide +kernel)
theorem kw_1063 : (Jvm.Cond.methodLink "MosaicCatalogueLaw" 320 ⟨"MosaicCatalogueLaw", "feed", "(LMosaicCatalogue;C[J)I"⟩) ∈ js_ws := js_ws_of 1063 (by decide +kernel) (by decide +kernel)
theorem kw_1064 : (Jvm.Cond.static ⟨"MosaicCatalogueLaw", "feed", "(LMosaicCatalogue;C[J)I"⟩) ∈ js_ws := js_ws_of 1064 (by decide +kernel) (by decide +kernel)
theorem kw_1066 : (Jvm.Cond.methodLink "MosaicCatalogueLaw" 130 ⟨"MosaicCatalogue", "feed", "(C)I"⟩) ∈ js_ws := js_ws_of 1066 (by decide +kernel) (by decide +kernel)
theorem kw_1067 : (Jvm.Cond.instanceMethod ⟨"MosaicCatalogue", "feed", "(C)I"⟩) ∈ js_ws := js_ws_of 1067 (by decide +kernel) (by decide +kernel)
theorem kw_1068 : (Jvm.Cond.selects "MosaicCatalogue" ⟨"MosaicCatalogue", "feed", "(C)I"⟩ ⟨"MosaicCatalogue", "feed", "(C)I"⟩) ∈ js_ws := js_ws_of 1068 (by decide +kernel) (by decide +kernel)
theorem kw_1079 : (Jvm.Cond.methodLink "MosaicCatalogueLaw" 323 ⟨"MosaicCatalogueLaw", "execute", "(LMosaicCatalogue;[J)I"⟩) ∈ js_ws := js_ws_of 1079 (by decide +kernel) (by decide +kernel)
theorem kw_1080 : (Jvm.Cond.static ⟨"MosaicCatalogueLaw", "execute", "(LMosaicCatalogue;[J)I"⟩) ∈ js_ws := js_ws_of 1080 (by decide +kernel) (by decide +kernel)
theorem kw_1082 : (Jvm.Cond.methodLink "MosaicCatalogueLaw" 134 ⟨"MosaicCatalogue", "execute", "()I"⟩) ∈ js_ws := js_ws_of 1082 (by decide +kernel) (by decide +kernel)
theorem kw_1083 : (Jvm.Cond.instanceMethod ⟨"MosaicCatalogue", "execute", "()I"⟩) ∈ js_ws := js_ws_of 1083 (by decide +kernel) (by decide +kernel)
theorem kw_1084 : (Jvm.Cond.selects "MosaicCatalogue" ⟨"MosaicCatalogue", "execute", "()I"⟩ ⟨"MosaicCatalogue", "execute", "()I"⟩) ∈ js_ws := js_ws_of 1084 (by decide +kernel) (by decide +kernel)
theorem kw_1187 : (Jvm.Cond.methodLink "MosaicCatalogueLaw" 326 ⟨"MosaicCatalogueLaw", "errorPosition", "(LMosaicCatalogue;[J)I"⟩) ∈ js_ws := js_ws_of 1187 (by decide +kernel) (by decide +kernel)
theorem kw_1188 : (Jvm.Cond.static ⟨"MosaicCatalogueLaw", "errorPosition", "(LMosaicCatalogue;[J)I"⟩) ∈ js_ws := js_ws_of 1188 (by decide +kernel) (by decide +kernel)
theorem kw_1190 : (Jvm.Cond.methodLink "MosaicCatalogueLaw" 137 ⟨"MosaicCatalogue", "errorPosition", "()I"⟩) ∈ js_ws := js_ws_of 1190 (by decide +kernel) (by decide +kernel)
theorem kw_1191 : (Jvm.Cond.instanceMethod ⟨"MosaicCatalogue", "errorPosition", "()I"⟩) ∈ js_ws := js_ws_of 1191 (by decide +kernel) (by decide +kernel)
theorem kw_1192 : (Jvm.Cond.selects "MosaicCatalogue" ⟨"MosaicCatalogue", "errorPosition", "()I"⟩ ⟨"MosaicCatalogue", "errorPosition", "()I"⟩) ∈ js_ws := js_ws_of 1192 (by decide +kernel) (by decide +kernel)
theorem kw_1195 : (Jvm.Cond.methodLink "MosaicCatalogueLaw" 329 ⟨"MosaicCatalogueLaw", "failedCommand", "(LMosaicCatalogue;[J)I"⟩) ∈ js_ws := js_ws_of 1195 (by decide +kernel) (by decide +kernel)
theorem kw_1196 : (Jvm.Cond.static ⟨"MosaicCatalogueLaw", "failedCommand", "(LMosaicCatalogue;[J)I"⟩) ∈ js_ws := js_ws_of 1196 (by decide +kernel) (by decide +kernel)
theorem kw_1198 : (Jvm.Cond.methodLink "MosaicCatalogueLaw" 140 ⟨"MosaicCatalogue", "failedCommand", "()I"⟩) ∈ js_ws := js_ws_of 1198 (by decide +kernel) (by decide +kernel)
theorem kw_1199 : (Jvm.Cond.instanceMethod ⟨"MosaicCatalogue", "failedCommand", "()I"⟩) ∈ js_ws := js_ws_of 1199 (by decide +kernel) (by decide +kernel)
theorem kw_1200 : (Jvm.Cond.selects "MosaicCatalogue" ⟨"MosaicCatalogue", "failedCommand", "()I"⟩ ⟨"MosaicCatalogue", "failedCommand", "()I"⟩) ∈ js_ws := js_ws_of 1200 (by decide +kernel) (by decide +kernel)
theorem kw_1203 : (Jvm.Cond.methodLink "MosaicCatalogueLaw" 332 ⟨"MosaicCatalogueLaw", "undo", "(LMosaicCatalogue;[J)I"⟩) ∈ js_ws := js_ws_of 1203 (by decide +kernel) (by decide +kernel)
theorem kw_1204 : (Jvm.Cond.static ⟨"MosaicCatalogueLaw", "undo", "(LMosaicCatalogue;[J)I"⟩) ∈ js_ws := js_ws_of 1204 (by decide +kernel) (by decide +kernel)
theorem kw_1206 : (Jvm.Cond.methodLink "MosaicCatalogueLaw" 143 ⟨"MosaicCatalogue", "undo", "()I"⟩) ∈ js_ws := js_ws_of 1206 (by decide +kernel) (by decide +kernel)
theorem kw_1207 : (Jvm.Cond.instanceMethod ⟨"MosaicCatalogue", "undo", "()I"⟩) ∈ js_ws := js_ws_of 1207 (by decide +kernel) (by decide +kernel)
theorem kw_1208 : (Jvm.Cond.selects "MosaicCatalogue" ⟨"MosaicCatalogue", "undo", "()I"⟩ ⟨"MosaicCatalogue", "undo", "()I"⟩) ∈ js_ws := js_ws_of 1208 (by decide +kernel) (by decide +kernel)
theorem kw_1215 : (Jvm.Cond.methodLink "MosaicCatalogueLaw" 343 ⟨"MosaicCatalogueLaw", "restore", "(LMosaicCatalogue;[J)I"⟩) ∈ js_ws := js_ws_of 1215 (by decide +kernel) (by decide +kernel)
theorem kw_1216 : (Jvm.Cond.static ⟨"MosaicCatalogueLaw", "restore", "(LMosaicCatalogue;[J)I"⟩) ∈ js_ws := js_ws_of 1216 (by decide +kernel) (by decide +kernel)
theorem kw_1218 : (Jvm.Cond.methodLink "MosaicCatalogueLaw" 146 ⟨"MosaicCatalogue", "restore", "()I"⟩) ∈ js_ws := js_ws_of 1218 (by decide +kernel) (by decide +kernel)
theorem kw_1219 : (Jvm.Cond.instanceMethod ⟨"MosaicCatalogue", "restore", "()I"⟩) ∈ js_ws := js_ws_of 1219 (by decide +kernel) (by decide +kernel)
theorem kw_1220 : (Jvm.Cond.selects "MosaicCatalogue" ⟨"MosaicCatalogue", "restore", "()I"⟩ ⟨"MosaicCatalogue", "restore", "()I"⟩) ∈ js_ws := js_ws_of 1220 (by decide +kernel) (by decide +kernel)
theorem kw_1227 : (Jvm.Cond.classLink "MosaicCatalogueLaw" 150 "MosaicCatalogueModel") ∈ js_ws := js_ws_of 1227 (by decide +kernel) (by decide +kernel)
theorem kw_1228 : (Jvm.Cond.instantiable "MosaicCatalogueModel" 17) ∈ js_ws := js_ws_of 1228 (by decide +kernel) (by decide +kernel)
theorem kw_1229 : (Jvm.Cond.methodLink "MosaicCatalogueLaw" 152 ⟨"MosaicCatalogueModel", "<init>", "()V"⟩) ∈ js_ws := js_ws_of 1229 (by decide +kernel) (by decide +kernel)
theorem kw_1230 : (Jvm.Cond.instanceMethod ⟨"MosaicCatalogueModel", "<init>", "()V"⟩) ∈ js_ws := js_ws_of 1230 (by decide +kernel) (by decide +kernel)
theorem kw_1285 : (Jvm.Cond.methodLink "MosaicCatalogueLaw" 159 ⟨"MosaicCatalogueModel", "thrown", "()I"⟩) ∈ js_ws := js_ws_of 1285 (by decide +kernel) (by decide +kernel)
theorem kw_1286 : (Jvm.Cond.instanceMethod ⟨"MosaicCatalogueModel", "thrown", "()I"⟩) ∈ js_ws := js_ws_of 1286 (by decide +kernel) (by decide +kernel)
theorem kw_1287 : (Jvm.Cond.selects "MosaicCatalogueModel" ⟨"MosaicCatalogueModel", "thrown", "()I"⟩ ⟨"MosaicCatalogueModel", "thrown", "()I"⟩) ∈ js_ws := js_ws_of 1287 (by decide +kernel) (by decide +kernel)
theorem kw_1289 : (Jvm.Cond.methodLink "MosaicCatalogueLaw" 158 ⟨"MosaicCatalogueModel", "addFragment", "(CIIII)I"⟩) ∈ js_ws := js_ws_of 1289 (by decide +kernel) (by decide +kernel)
theorem kw_1290 : (Jvm.Cond.instanceMethod ⟨"MosaicCatalogueModel", "addFragment", "(CIIII)I"⟩) ∈ js_ws := js_ws_of 1290 (by decide +kernel) (by decide +kernel)
theorem kw_1291 : (Jvm.Cond.selects "MosaicCatalogueModel" ⟨"MosaicCatalogueModel", "addFragment", "(CIIII)I"⟩ ⟨"MosaicCatalogueModel", "addFragment", "(CIIII)I"⟩) ∈ js_ws := js_ws_of 1291 (by decide +kernel) (by decide +kernel)
theorem kw_1340 : (Jvm.Cond.methodLink "MosaicCatalogueLaw" 165 ⟨"MosaicCatalogueModel", "removeFragment", "(I)I"⟩) ∈ js_ws := js_ws_of 1340 (by decide +kernel) (by decide +kernel)
theorem kw_1341 : (Jvm.Cond.instanceMethod ⟨"MosaicCatalogueModel", "removeFragment", "(I)I"⟩) ∈ js_ws := js_ws_of 1341 (by decide +kernel) (by decide +kernel)
theorem kw_1342 : (Jvm.Cond.selects "MosaicCatalogueModel" ⟨"MosaicCatalogueModel", "removeFragment", "(I)I"⟩ ⟨"MosaicCatalogueModel", "removeFragment", "(I)I"⟩) ∈ js_ws := js_ws_of 1342 (by decide +kernel) (by decide +kernel)
theorem kw_1352 : (Jvm.Cond.methodLink "MosaicCatalogueLaw" 169 ⟨"MosaicCatalogueModel", "fragmentCount", "()I"⟩) ∈ js_ws := js_ws_of 1352 (by decide +kernel) (by decide +kernel)
theorem kw_1353 : (Jvm.Cond.instanceMethod ⟨"MosaicCatalogueModel", "fragmentCount", "()I"⟩) ∈ js_ws := js_ws_of 1353 (by decide +kernel) (by decide +kernel)
theorem kw_1354 : (Jvm.Cond.selects "MosaicCatalogueModel" ⟨"MosaicCatalogueModel", "fragmentCount", "()I"⟩ ⟨"MosaicCatalogueModel", "fragmentCount", "()I"⟩) ∈ js_ws := js_ws_of 1354 (by decide +kernel) (by decide +kernel)
theorem kw_1356 : (Jvm.Cond.methodLink "MosaicCatalogueLaw" 173 ⟨"MosaicCatalogueModel", "trayCount", "()I"⟩) ∈ js_ws := js_ws_of 1356 (by decide +kernel) (by decide +kernel)
theorem kw_1357 : (Jvm.Cond.instanceMethod ⟨"MosaicCatalogueModel", "trayCount", "()I"⟩) ∈ js_ws := js_ws_of 1357 (by decide +kernel) (by decide +kernel)
theorem kw_1358 : (Jvm.Cond.selects "MosaicCatalogueModel" ⟨"MosaicCatalogueModel", "trayCount", "()I"⟩ ⟨"MosaicCatalogueModel", "trayCount", "()I"⟩) ∈ js_ws := js_ws_of 1358 (by decide +kernel) (by decide +kernel)
theorem kw_1360 : (Jvm.Cond.methodLink "MosaicCatalogueLaw" 176 ⟨"MosaicCatalogueModel", "inTray", "(I)I"⟩) ∈ js_ws := js_ws_of 1360 (by decide +kernel) (by decide +kernel)
theorem kw_1361 : (Jvm.Cond.instanceMethod ⟨"MosaicCatalogueModel", "inTray", "(I)I"⟩) ∈ js_ws := js_ws_of 1361 (by decide +kernel) (by decide +kernel)
theorem kw_1362 : (Jvm.Cond.selects "MosaicCatalogueModel" ⟨"MosaicCatalogueModel", "inTray", "(I)I"⟩ ⟨"MosaicCatalogueModel", "inTray", "(I)I"⟩) ∈ js_ws := js_ws_of 1362 (by decide +kernel) (by decide +kernel)
theorem kw_1372 : (Jvm.Cond.methodLink "MosaicCatalogueLaw" 180 ⟨"MosaicCatalogueModel", "exists", "(I)Z"⟩) ∈ js_ws := js_ws_of 1372 (by decide +kernel) (by decide +kernel)
theorem kw_1373 : (Jvm.Cond.instanceMethod ⟨"MosaicCatalogueModel", "exists", "(I)Z"⟩) ∈ js_ws := js_ws_of 1373 (by decide +kernel) (by decide +kernel)
theorem kw_1374 : (Jvm.Cond.selects "MosaicCatalogueModel" ⟨"MosaicCatalogueModel", "exists", "(I)Z"⟩ ⟨"MosaicCatalogueModel", "exists", "(I)Z"⟩) ∈ js_ws := js_ws_of 1374 (by decide +kernel) (by decide +kernel)
theorem kw_1376 : (Jvm.Cond.methodLink "MosaicCatalogueLaw" 183 ⟨"MosaicCatalogueModel", "colour", "(I)C"⟩) ∈ js_ws := js_ws_of 1376 (by decide +kernel) (by decide +kernel)
theorem kw_1377 : (Jvm.Cond.instanceMethod ⟨"MosaicCatalogueModel", "colour", "(I)C"⟩) ∈ js_ws := js_ws_of 1377 (by decide +kernel) (by decide +kernel)
theorem kw_1378 : (Jvm.Cond.selects "MosaicCatalogueModel" ⟨"MosaicCatalogueModel", "colour", "(I)C"⟩ ⟨"MosaicCatalogueModel", "colour", "(I)C"⟩) ∈ js_ws := js_ws_of 1378 (by decide +kernel) (by decide +kernel)
theorem kw_1380 : (Jvm.Cond.methodLink "MosaicCatalogueLaw" 186 ⟨"MosaicCatalogueModel", "turn", "(I)I"⟩) ∈ js_ws := js_ws_of 1380 (by decide +kernel) (by decide +kernel)
theorem kw_1381 : (Jvm.Cond.instanceMethod ⟨"MosaicCatalogueModel", "turn", "(I)I"⟩) ∈ js_ws := js_ws_of 1381 (by decide +kernel) (by decide +kernel)
theorem kw_1382 : (Jvm.Cond.selects "MosaicCatalogueModel" ⟨"MosaicCatalogueModel", "turn", "(I)I"⟩ ⟨"MosaicCatalogueModel", "turn", "(I)I"⟩) ∈ js_ws := js_ws_of 1382 (by decide +kernel) (by decide +kernel)
theorem kw_1384 : (Jvm.Cond.methodLink "MosaicCatalogueLaw" 190 ⟨"MosaicCatalogueModel", "edge", "(II)I"⟩) ∈ js_ws := js_ws_of 1384 (by decide +kernel) (by decide +kernel)
theorem kw_1385 : (Jvm.Cond.instanceMethod ⟨"MosaicCatalogueModel", "edge", "(II)I"⟩) ∈ js_ws := js_ws_of 1385 (by decide +kernel) (by decide +kernel)
theorem kw_1386 : (Jvm.Cond.selects "MosaicCatalogueModel" ⟨"MosaicCatalogueModel", "edge", "(II)I"⟩ ⟨"MosaicCatalogueModel", "edge", "(II)I"⟩) ∈ js_ws := js_ws_of 1386 (by decide +kernel) (by decide +kernel)
theorem kw_1392 : (Jvm.Cond.methodLink "MosaicCatalogueLaw" 193 ⟨"MosaicCatalogueModel", "isPlaced", "(I)Z"⟩) ∈ js_ws := js_ws_of 1392 (by decide +kernel) (by decide +kernel)
theorem kw_1393 : (Jvm.Cond.instanceMethod ⟨"MosaicCatalogueModel", "isPlaced", "(I)Z"⟩) ∈ js_ws := js_ws_of 1393 (by decide +kernel) (by decide +kernel)
theorem kw_1394 : (Jvm.Cond.selects "MosaicCatalogueModel" ⟨"MosaicCatalogueModel", "isPlaced", "(I)Z"⟩ ⟨"MosaicCatalogueModel", "isPlaced", "(I)Z"⟩) ∈ js_ws := js_ws_of 1394 (by decide +kernel) (by decide +kernel)
theorem kw_1396 : (Jvm.Cond.methodLink "MosaicCatalogueLaw" 196 ⟨"MosaicCatalogueModel", "cell", "(I)I"⟩) ∈ js_ws := js_ws_of 1396 (by decide +kernel) (by decide +kernel)
theorem kw_1397 : (Jvm.Cond.instanceMethod ⟨"MosaicCatalogueModel", "cell", "(I)I"⟩) ∈ js_ws := js_ws_of 1397 (by decide +kernel) (by decide +kernel)
theorem kw_1398 : (Jvm.Cond.selects "MosaicCatalogueModel" ⟨"MosaicCatalogueModel", "cell", "(I)I"⟩ ⟨"MosaicCatalogueModel", "cell", "(I)I"⟩) ∈ js_ws := js_ws_of 1398 (by decide +kernel) (by decide +kernel)
theorem kw_1404 : (Jvm.Cond.methodLink "MosaicCatalogueLaw" 200 ⟨"MosaicCatalogueModel", "differentPatterns", "()I"⟩) ∈ js_ws := js_ws_of 1404 (by decide +kernel) (by decide +kernel)
theorem kw_1405 : (Jvm.Cond.instanceMethod ⟨"MosaicCatalogueModel", "differentPatterns", "()I"⟩) ∈ js_ws := js_ws_of 1405 (by decide +kernel) (by decide +kernel)
theorem kw_1406 : (Jvm.Cond.selects "MosaicCatalogueModel" ⟨"MosaicCatalogueModel", "differentPatterns", "()I"⟩ ⟨"MosaicCatalogueModel", "differentPatterns", "()I"⟩) ∈ js_ws := js_ws_of 1406 (by decide +kernel) (by decide +kernel)
theorem kw_1408 : (Jvm.Cond.methodLink "MosaicCatalogueLaw" 204 ⟨"MosaicCatalogueModel", "place", "(III)I"⟩) ∈ js_ws := js_ws_of 1408 (by decide +kernel) (by decide +kernel)
theorem kw_1409 : (Jvm.Cond.instanceMethod ⟨"MosaicCatalogueModel", "place", "(III)I"⟩) ∈ js_ws := js_ws_of 1409 (by decide +kernel) (by decide +kernel)
theorem kw_1410 : (Jvm.Cond.selects "MosaicCatalogueModel" ⟨"MosaicCatalogueModel", "place", "(III)I"⟩ ⟨"MosaicCatalogueModel", "place", "(III)I"⟩) ∈ js_ws := js_ws_of 1410 (by decide +kernel) (by decide +kernel)
theorem kw_1442 : (Jvm.Cond.methodLink "MosaicCatalogueLaw" 207 ⟨"MosaicCatalogueModel", "takeBack", "(I)I"⟩) ∈ js_ws := js_ws_of 1442 (by decide +kernel) (by decide +kernel)
theorem kw_1443 : (Jvm.Cond.instanceMethod ⟨"MosaicCatalogueModel", "takeBack", "(I)I"⟩) ∈ js_ws := js_ws_of 1443 (by decide +kernel) (by decide +kernel)
theorem kw_1444 : (Jvm.Cond.selects "MosaicCatalogueModel" ⟨"MosaicCatalogueModel", "takeBack", "(I)I"⟩ ⟨"MosaicCatalogueModel", "takeBack", "(I)I"⟩) ∈ js_ws := js_ws_of 1444 (by decide +kernel) (by decide +kernel)
theorem kw_1450 : (Jvm.Cond.methodLink "MosaicCatalogueLaw" 210 ⟨"MosaicCatalogueModel", "setTurn", "(II)I"⟩) ∈ js_ws := js_ws_of 1450 (by decide +kernel) (by decide +kernel)
theorem kw_1451 : (Jvm.Cond.instanceMethod ⟨"MosaicCatalogueModel", "setTurn", "(II)I"⟩) ∈ js_ws := js_ws_of 1451 (by decide +kernel) (by decide +kernel)
theorem kw_1452 : (Jvm.Cond.selects "MosaicCatalogueModel" ⟨"MosaicCatalogueModel", "setTurn", "(II)I"⟩ ⟨"MosaicCatalogueModel", "setTurn", "(II)I"⟩) ∈ js_ws := js_ws_of 1452 (by decide +kernel) (by decide +kernel)
theorem kw_1458 : (Jvm.Cond.methodLink "MosaicCatalogueLaw" 213 ⟨"MosaicCatalogueModel", "swap", "(II)I"⟩) ∈ js_ws := js_ws_of 1458 (by decide +kernel) (by decide +kernel)
theorem kw_1459 : (Jvm.Cond.instanceMethod ⟨"MosaicCatalogueModel", "swap", "(II)I"⟩) ∈ js_ws := js_ws_of 1459 (by decide +kernel) (by decide +kernel)
theorem kw_1460 : (Jvm.Cond.selects "MosaicCatalogueModel" ⟨"MosaicCatalogueModel", "swap", "(II)I"⟩ ⟨"MosaicCatalogueModel", "swap", "(II)I"⟩) ∈ js_ws := js_ws_of 1460 (by decide +kernel) (by decide +kernel)
theorem kw_1470 : (Jvm.Cond.methodLink "MosaicCatalogueLaw" 216 ⟨"MosaicCatalogueModel", "placeGuess", "(II)I"⟩) ∈ js_ws := js_ws_of 1470 (by decide +kernel) (by decide +kernel)
theorem kw_1471 : (Jvm.Cond.instanceMethod ⟨"MosaicCatalogueModel", "placeGuess", "(II)I"⟩) ∈ js_ws := js_ws_of 1471 (by decide +kernel) (by decide +kernel)
theorem kw_1472 : (Jvm.Cond.selects "MosaicCatalogueModel" ⟨"MosaicCatalogueModel", "placeGuess", "(II)I"⟩ ⟨"MosaicCatalogueModel", "placeGuess", "(II)I"⟩) ∈ js_ws := js_ws_of 1472 (by decide +kernel) (by decide +kernel)
theorem kw_1514 : (Jvm.Cond.methodLink "MosaicCatalogueLaw" 220 ⟨"MosaicCatalogueModel", "fill", "()I"⟩) ∈ js_ws := js_ws_of 1514 (by decide +kernel) (by decide +kernel)
theorem kw_1515 : (Jvm.Cond.instanceMethod ⟨"MosaicCatalogueModel", "fill", "()I"⟩) ∈ js_ws := js_ws_of 1515 (by decide +kernel) (by decide +kernel)
theorem kw_1516 : (Jvm.Cond.selects "MosaicCatalogueModel" ⟨"MosaicCatalogueModel", "fill", "()I"⟩ ⟨"MosaicCatalogueModel", "fill", "()I"⟩) ∈ js_ws := js_ws_of 1516 (by decide +kernel) (by decide +kernel)
theorem kw_1527 : (Jvm.Cond.methodLink "MosaicCatalogueLaw" 268 ⟨"MosaicCatalogueModel", "weight", "(IIII)I"⟩) ∈ js_ws := js_ws_of 1527 (by decide +kernel) (by decide +kernel)
theorem kw_1528 : (Jvm.Cond.instanceMethod ⟨"MosaicCatalogueModel", "weight", "(IIII)I"⟩) ∈ js_ws := js_ws_of 1528 (by decide +kernel) (by decide +kernel)
theorem kw_1529 : (Jvm.Cond.selects "MosaicCatalogueModel" ⟨"MosaicCatalogueModel", "weight", "(IIII)I"⟩ ⟨"MosaicCatalogueModel", "weight", "(IIII)I"⟩) ∈ js_ws := js_ws_of 1529 (by decide +kernel) (by decide +kernel)
theorem kw_1531 : (Jvm.Cond.methodLink "MosaicCatalogueLaw" 271 ⟨"MosaicCatalogueModel", "bestTurn", "(III)I"⟩) ∈ js_ws := js_ws_of 1531 (by decide +kernel) (by decide +kernel)
theorem kw_1532 : (Jvm.Cond.instanceMethod ⟨"MosaicCatalogueModel", "bestTurn", "(III)I"⟩) ∈ js_ws := js_ws_of 1532 (by decide +kernel) (by decide +kernel)
theorem kw_1533 : (Jvm.Cond.selects "MosaicCatalogueModel" ⟨"MosaicCatalogueModel", "bestTurn", "(III)I"⟩ ⟨"MosaicCatalogueModel", "bestTurn", "(III)I"⟩) ∈ js_ws := js_ws_of 1533 (by decide +kernel) (by decide +kernel)
theorem kw_1535 : (Jvm.Cond.methodLink "MosaicCatalogueLaw" 274 ⟨"MosaicCatalogueModel", "bestGuess", "(II)I"⟩) ∈ js_ws := js_ws_of 1535 (by decide +kernel) (by decide +kernel)
theorem kw_1536 : (Jvm.Cond.instanceMethod ⟨"MosaicCatalogueModel", "bestGuess", "(II)I"⟩) ∈ js_ws := js_ws_of 1536 (by decide +kernel) (by decide +kernel)
theorem kw_1537 : (Jvm.Cond.selects "MosaicCatalogueModel" ⟨"MosaicCatalogueModel", "bestGuess", "(II)I"⟩ ⟨"MosaicCatalogueModel", "bestGuess", "(II)I"⟩) ∈ js_ws := js_ws_of 1537 (by decide +kernel) (by decide +kernel)
theorem kw_1539 : (Jvm.Cond.methodLink "MosaicCatalogueLaw" 277 ⟨"MosaicCatalogueModel", "guessByWeight", "(III)I"⟩) ∈ js_ws := js_ws_of 1539 (by decide +kernel) (by decide +kernel)
theorem kw_1540 : (Jvm.Cond.instanceMethod ⟨"MosaicCatalogueModel", "guessByWeight", "(III)I"⟩) ∈ js_ws := js_ws_of 1540 (by decide +kernel) (by decide +kernel)
theorem kw_1541 : (Jvm.Cond.selects "MosaicCatalogueModel" ⟨"MosaicCatalogueModel", "guessByWeight", "(III)I"⟩ ⟨"MosaicCatalogueModel", "guessByWeight", "(III)I"⟩) ∈ js_ws := js_ws_of 1541 (by decide +kernel) (by decide +kernel)
theorem kw_1543 : (Jvm.Cond.methodLink "MosaicCatalogueLaw" 223 ⟨"MosaicCatalogueModel", "isEmpty", "(II)Z"⟩) ∈ js_ws := js_ws_of 1543 (by decide +kernel) (by decide +kernel)
theorem kw_1544 : (Jvm.Cond.instanceMethod ⟨"MosaicCatalogueModel", "isEmpty", "(II)Z"⟩) ∈ js_ws := js_ws_of 1544 (by decide +kernel) (by decide +kernel)
theorem kw_1545 : (Jvm.Cond.selects "MosaicCatalogueModel" ⟨"MosaicCatalogueModel", "isEmpty", "(II)Z"⟩ ⟨"MosaicCatalogueModel", "isEmpty", "(II)Z"⟩) ∈ js_ws := js_ws_of 1545 (by decide +kernel) (by decide +kernel)
theorem kw_1547 : (Jvm.Cond.methodLink "MosaicCatalogueLaw" 226 ⟨"MosaicCatalogueModel", "fragmentAt", "(II)I"⟩) ∈ js_ws := js_ws_of 1547 (by decide +kernel) (by decide +kernel)
theorem kw_1548 : (Jvm.Cond.instanceMethod ⟨"MosaicCatalogueModel", "fragmentAt", "(II)I"⟩) ∈ js_ws := js_ws_of 1548 (by decide +kernel) (by decide +kernel)
theorem kw_1549 : (Jvm.Cond.selects "MosaicCatalogueModel" ⟨"MosaicCatalogueModel", "fragmentAt", "(II)I"⟩ ⟨"MosaicCatalogueModel", "fragmentAt", "(II)I"⟩) ∈ js_ws := js_ws_of 1549 (by decide +kernel) (by decide +kernel)
theorem kw_1551 : (Jvm.Cond.methodLink "MosaicCatalogueLaw" 231 ⟨"MosaicCatalogueModel", "placedMask", "()J"⟩) ∈ js_ws := js_ws_of 1551 (by decide +kernel) (by decide +kernel)
theorem kw_1552 : (Jvm.Cond.instanceMethod ⟨"MosaicCatalogueModel", "placedMask", "()J"⟩) ∈ js_ws := js_ws_of 1552 (by decide +kernel) (by decide +kernel)
theorem kw_1553 : (Jvm.Cond.selects "MosaicCatalogueModel" ⟨"MosaicCatalogueModel", "placedMask", "()J"⟩ ⟨"MosaicCatalogueModel", "placedMask", "()J"⟩) ∈ js_ws := js_ws_of 1553 (by decide +kernel) (by decide +kernel)
theorem kw_1555 : (Jvm.Cond.methodLink "MosaicCatalogueLaw" 235 ⟨"MosaicCatalogueModel", "colourMask", "(C)J"⟩) ∈ js_ws := js_ws_of 1555 (by decide +kernel) (by decide +kernel)
theorem kw_1556 : (Jvm.Cond.instanceMethod ⟨"MosaicCatalogueModel", "colourMask", "(C)J"⟩) ∈ js_ws := js_ws_of 1556 (by decide +kernel) (by decide +kernel)
theorem kw_1557 : (Jvm.Cond.selects "MosaicCatalogueModel" ⟨"MosaicCatalogueModel", "colourMask", "(C)J"⟩ ⟨"MosaicCatalogueModel", "colourMask", "(C)J"⟩) ∈ js_ws := js_ws_of 1557 (by decide +kernel) (by decide +kernel)
theorem kw_1559 : (Jvm.Cond.methodLink "MosaicCatalogueLaw" 239 ⟨"MosaicCatalogueModel", "gapMask", "()J"⟩) ∈ js_ws := js_ws_of 1559 (by decide +kernel) (by decide +kernel)
theorem kw_1563 : (Jvm.Cond.methodLink "MosaicCatalogueLaw" 243 ⟨"MosaicCatalogueModel", "gapMaskByShifts", "()J"⟩) ∈ js_ws := js_ws_of 1563 (by decide +kernel) (by decide +kernel)
theorem kw_1564 : (Jvm.Cond.instanceMethod ⟨"MosaicCatalogueModel", "gapMaskByShifts", "()J"⟩) ∈ js_ws := js_ws_of 1564 (by decide +kernel) (by decide +kernel)
theorem kw_1565 : (Jvm.Cond.selects "MosaicCatalogueModel" ⟨"MosaicCatalogueModel", "gapMaskByShifts", "()J"⟩ ⟨"MosaicCatalogueModel", "gapMaskByShifts", "()J"⟩) ∈ js_ws := js_ws_of 1565 (by decide +kernel) (by decide +kernel)
theorem kw_1568 : (Jvm.Cond.methodLink "MosaicCatalogueLaw" 247 ⟨"MosaicCatalogueModel", "gapCount", "()I"⟩) ∈ js_ws := js_ws_of 1568 (by decide +kernel) (by decide +kernel)
theorem kw_1569 : (Jvm.Cond.instanceMethod ⟨"MosaicCatalogueModel", "gapCount", "()I"⟩) ∈ js_ws := js_ws_of 1569 (by decide +kernel) (by decide +kernel)
theorem kw_1570 : (Jvm.Cond.selects "MosaicCatalogueModel" ⟨"MosaicCatalogueModel", "gapCount", "()I"⟩ ⟨"MosaicCatalogueModel", "gapCount", "()I"⟩) ∈ js_ws := js_ws_of 1570 (by decide +kernel) (by decide +kernel)
theorem kw_1572 : (Jvm.Cond.methodLink "MosaicCatalogueLaw" 251 ⟨"MosaicCatalogueModel", "joinCount", "()I"⟩) ∈ js_ws := js_ws_of 1572 (by decide +kernel) (by decide +kernel)
theorem kw_1573 : (Jvm.Cond.instanceMethod ⟨"MosaicCatalogueModel", "joinCount", "()I"⟩) ∈ js_ws := js_ws_of 1573 (by decide +kernel) (by decide +kernel)
theorem kw_1574 : (Jvm.Cond.selects "MosaicCatalogueModel" ⟨"MosaicCatalogueModel", "joinCount", "()I"⟩ ⟨"MosaicCatalogueModel", "joinCount", "()I"⟩) ∈ js_ws := js_ws_of 1574 (by decide +kernel) (by decide +kernel)
theorem kw_1576 : (Jvm.Cond.methodLink "MosaicCatalogueLaw" 255 ⟨"MosaicCatalogueModel", "clashCount", "()I"⟩) ∈ js_ws := js_ws_of 1576 (by decide +kernel) (by decide +kernel)
theorem kw_1577 : (Jvm.Cond.instanceMethod ⟨"MosaicCatalogueModel", "clashCount", "()I"⟩) ∈ js_ws := js_ws_of 1577 (by decide +kernel) (by decide +kernel)
theorem kw_1578 : (Jvm.Cond.selects "MosaicCatalogueModel" ⟨"MosaicCatalogueModel", "clashCount", "()I"⟩ ⟨"MosaicCatalogueModel", "clashCount", "()I"⟩) ∈ js_ws := js_ws_of 1578 (by decide +kernel) (by decide +kernel)
theorem kw_1580 : (Jvm.Cond.methodLink "MosaicCatalogueLaw" 258 ⟨"MosaicCatalogueModel", "fitsAt", "(II)Z"⟩) ∈ js_ws := js_ws_of 1580 (by decide +kernel) (by decide +kernel)
theorem kw_1581 : (Jvm.Cond.instanceMethod ⟨"MosaicCatalogueModel", "fitsAt", "(II)Z"⟩) ∈ js_ws := js_ws_of 1581 (by decide +kernel) (by decide +kernel)
theorem kw_1582 : (Jvm.Cond.selects "MosaicCatalogueModel" ⟨"MosaicCatalogueModel", "fitsAt", "(II)Z"⟩ ⟨"MosaicCatalogueModel", "fitsAt", "(II)Z"⟩) ∈ js_ws := js_ws_of 1582 (by decide +kernel) (by decide +kernel)
theorem kw_1584 : (Jvm.Cond.methodLink "MosaicCatalogueLaw" 261 ⟨"MosaicCatalogueModel", "clashesOf", "(I)I"⟩) ∈ js_ws := js_ws_of 1584 (by decide +kernel) (by decide +kernel)
theorem kw_1585 : (Jvm.Cond.instanceMethod ⟨"MosaicCatalogueModel", "clashesOf", "(I)I"⟩) ∈ js_ws := js_ws_of 1585 (by decide +kernel) (by decide +kernel)
theorem kw_1586 : (Jvm.Cond.selects "MosaicCatalogueModel" ⟨"MosaicCatalogueModel", "clashesOf", "(I)I"⟩ ⟨"MosaicCatalogueModel", "clashesOf", "(I)I"⟩) ∈ js_ws := js_ws_of 1586 (by decide +kernel) (by decide +kernel)
theorem kw_1588 : (Jvm.Cond.methodLink "MosaicCatalogueLaw" 264 ⟨"MosaicCatalogueModel", "outlineSize", "(II)I"⟩) ∈ js_ws := js_ws_of 1588 (by decide +kernel) (by decide +kernel)
theorem kw_1589 : (Jvm.Cond.instanceMethod ⟨"MosaicCatalogueModel", "outlineSize", "(II)I"⟩) ∈ js_ws := js_ws_of 1589 (by decide +kernel) (by decide +kernel)
theorem kw_1590 : (Jvm.Cond.selects "MosaicCatalogueModel" ⟨"MosaicCatalogueModel", "outlineSize", "(II)I"⟩ ⟨"MosaicCatalogueModel", "outlineSize", "(II)I"⟩) ∈ js_ws := js_ws_of 1590 (by decide +kernel) (by decide +kernel)
theorem kw_1592 : (Jvm.Cond.methodLink "MosaicCatalogueLaw" 281 ⟨"MosaicCatalogueModel", "groupCount", "()I"⟩) ∈ js_ws := js_ws_of 1592 (by decide +kernel) (by decide +kernel)
theorem kw_1600 : (Jvm.Cond.methodLink "MosaicCatalogueLaw" 285 ⟨"MosaicCatalogueModel", "groupCountByUnions", "()I"⟩) ∈ js_ws := js_ws_of 1600 (by decide +kernel) (by decide +kernel)
theorem kw_1601 : (Jvm.Cond.instanceMethod ⟨"MosaicCatalogueModel", "groupCountByUnions", "()I"⟩) ∈ js_ws := js_ws_of 1601 (by decide +kernel) (by decide +kernel)
theorem kw_1602 : (Jvm.Cond.selects "MosaicCatalogueModel" ⟨"MosaicCatalogueModel", "groupCountByUnions", "()I"⟩ ⟨"MosaicCatalogueModel", "groupCountByUnions", "()I"⟩) ∈ js_ws := js_ws_of 1602 (by decide +kernel) (by decide +kernel)
theorem kw_1605 : (Jvm.Cond.methodLink "MosaicCatalogueLaw" 288 ⟨"MosaicCatalogueModel", "groupSize", "(I)I"⟩) ∈ js_ws := js_ws_of 1605 (by decide +kernel) (by decide +kernel)
theorem kw_1606 : (Jvm.Cond.instanceMethod ⟨"MosaicCatalogueModel", "groupSize", "(I)I"⟩) ∈ js_ws := js_ws_of 1606 (by decide +kernel) (by decide +kernel)
theorem kw_1607 : (Jvm.Cond.selects "MosaicCatalogueModel" ⟨"MosaicCatalogueModel", "groupSize", "(I)I"⟩ ⟨"MosaicCatalogueModel", "groupSize", "(I)I"⟩) ∈ js_ws := js_ws_of 1607 (by decide +kernel) (by decide +kernel)
theorem kw_1612 : (Jvm.Cond.methodLink "MosaicCatalogueLaw" 291 ⟨"MosaicCatalogueModel", "groupMask", "(I)J"⟩) ∈ js_ws := js_ws_of 1612 (by decide +kernel) (by decide +kernel)
theorem kw_1613 : (Jvm.Cond.instanceMethod ⟨"MosaicCatalogueModel", "groupMask", "(I)J"⟩) ∈ js_ws := js_ws_of 1613 (by decide +kernel) (by decide +kernel)
theorem kw_1614 : (Jvm.Cond.selects "MosaicCatalogueModel" ⟨"MosaicCatalogueModel", "groupMask", "(I)J"⟩ ⟨"MosaicCatalogueModel", "groupMask", "(I)J"⟩) ∈ js_ws := js_ws_of 1614 (by decide +kernel) (by decide +kernel)
theorem kw_1616 : (Jvm.Cond.methodLink "MosaicCatalogueLaw" 295 ⟨"MosaicCatalogueModel", "largestGroup", "()I"⟩) ∈ js_ws := js_ws_of 1616 (by decide +kernel) (by decide +kernel)
theorem kw_1617 : (Jvm.Cond.instanceMethod ⟨"MosaicCatalogueModel", "largestGroup", "()I"⟩) ∈ js_ws := js_ws_of 1617 (by decide +kernel) (by decide +kernel)
theorem kw_1618 : (Jvm.Cond.selects "MosaicCatalogueModel" ⟨"MosaicCatalogueModel", "largestGroup", "()I"⟩ ⟨"MosaicCatalogueModel", "largestGroup", "()I"⟩) ∈ js_ws := js_ws_of 1618 (by decide +kernel) (by decide +kernel)
theorem kw_1620 : (Jvm.Cond.methodLink "MosaicCatalogueLaw" 299 ⟨"MosaicCatalogueModel", "joinFraction", "()F"⟩) ∈ js_ws := js_ws_of 1620 (by decide +kernel) (by decide +kernel)
theorem kw_1624 : (Jvm.Cond.methodLink "MosaicCatalogueLaw" 302 ⟨"MosaicCatalogueModel", "joinFractionBits", "()I"⟩) ∈ js_ws := js_ws_of 1624 (by decide +kernel) (by decide +kernel)
theorem kw_1625 : (Jvm.Cond.instanceMethod ⟨"MosaicCatalogueModel", "joinFractionBits", "()I"⟩) ∈ js_ws := js_ws_of 1625 (by decide +kernel) (by decide +kernel)
theorem kw_1626 : (Jvm.Cond.selects "MosaicCatalogueModel" ⟨"MosaicCatalogueModel", "joinFractionBits", "()I"⟩ ⟨"MosaicCatalogueModel", "joinFractionBits", "()I"⟩) ∈ js_ws := js_ws_of 1626 (by decide +kernel) (by decide +kernel)
theorem kw_1639 : (Jvm.Cond.methodLink "MosaicCatalogueLaw" 305 ⟨"MosaicCatalogueModel", "meanJoins", "()D"⟩) ∈ js_ws := js_ws_of 1639 (by decide +kernel) (by decide +kernel)
theorem kw_1640 : (Jvm.Cond.instanceMethod ⟨"MosaicCatalogueModel", "meanJoins", "()D"⟩) ∈ js_ws := js_ws_of 1640 (by decide +kernel) (by decide +kernel)
theorem kw_1641 : (Jvm.Cond.selects "MosaicCatalogueModel" ⟨"MosaicCatalogueModel", "meanJoins", "()D"⟩ ⟨"MosaicCatalogueModel", "meanJoins", "()D"⟩) ∈ js_ws := js_ws_of 1641 (by decide +kernel) (by decide +kernel)
theorem kw_1643 : (Jvm.Cond.methodLink "MosaicCatalogueLaw" 310 ⟨"MosaicCatalogueModel", "isConsistent", "()Z"⟩) ∈ js_ws := js_ws_of 1643 (by decide +kernel) (by decide +kernel)
theorem kw_1644 : (Jvm.Cond.instanceMethod ⟨"MosaicCatalogueModel", "isConsistent", "()Z"⟩) ∈ js_ws := js_ws_of 1644 (by decide +kernel) (by decide +kernel)
theorem kw_1645 : (Jvm.Cond.selects "MosaicCatalogueModel" ⟨"MosaicCatalogueModel", "isConsistent", "()Z"⟩ ⟨"MosaicCatalogueModel", "isConsistent", "()Z"⟩) ∈ js_ws := js_ws_of 1645 (by decide +kernel) (by decide +kernel)
theorem kw_1647 : (Jvm.Cond.methodLink "MosaicCatalogueLaw" 313 ⟨"MosaicCatalogueModel", "writeRow", "(I)I"⟩) ∈ js_ws := js_ws_of 1647 (by decide +kernel) (by decide +kernel)
theorem kw_1648 : (Jvm.Cond.instanceMethod ⟨"MosaicCatalogueModel", "writeRow", "(I)I"⟩) ∈ js_ws := js_ws_of 1648 (by decide +kernel) (by decide +kernel)
theorem kw_1649 : (Jvm.Cond.selects "MosaicCatalogueModel" ⟨"MosaicCatalogueModel", "writeRow", "(I)I"⟩ ⟨"MosaicCatalogueModel", "writeRow", "(I)I"⟩) ∈ js_ws := js_ws_of 1649 (by decide +kernel) (by decide +kernel)
theorem kw_1655 : (Jvm.Cond.methodLink "MosaicCatalogueLaw" 316 ⟨"MosaicCatalogueModel", "writeFragment", "(I)I"⟩) ∈ js_ws := js_ws_of 1655 (by decide +kernel) (by decide +kernel)
theorem kw_1656 : (Jvm.Cond.instanceMethod ⟨"MosaicCatalogueModel", "writeFragment", "(I)I"⟩) ∈ js_ws := js_ws_of 1656 (by decide +kernel) (by decide +kernel)
theorem kw_1657 : (Jvm.Cond.selects "MosaicCatalogueModel" ⟨"MosaicCatalogueModel", "writeFragment", "(I)I"⟩ ⟨"MosaicCatalogueModel", "writeFragment", "(I)I"⟩) ∈ js_ws := js_ws_of 1657 (by decide +kernel) (by decide +kernel)
theorem kw_1659 : (Jvm.Cond.methodLink "MosaicCatalogueLaw" 319 ⟨"MosaicCatalogueModel", "outputCharacter", "(I)C"⟩) ∈ js_ws := js_ws_of 1659 (by decide +kernel) (by decide +kernel)
theorem kw_1660 : (Jvm.Cond.instanceMethod ⟨"MosaicCatalogueModel", "outputCharacter", "(I)C"⟩) ∈ js_ws := js_ws_of 1660 (by decide +kernel) (by decide +kernel)
theorem kw_1661 : (Jvm.Cond.selects "MosaicCatalogueModel" ⟨"MosaicCatalogueModel", "outputCharacter", "(I)C"⟩ ⟨"MosaicCatalogueModel", "outputCharacter", "(I)C"⟩) ∈ js_ws := js_ws_of 1661 (by decide +kernel) (by decide +kernel)
theorem kw_1663 : (Jvm.Cond.methodLink "MosaicCatalogueLaw" 322 ⟨"MosaicCatalogueModel", "feed", "(C)I"⟩) ∈ js_ws := js_ws_of 1663 (by decide +kernel) (by decide +kernel)
theorem kw_1664 : (Jvm.Cond.instanceMethod ⟨"MosaicCatalogueModel", "feed", "(C)I"⟩) ∈ js_ws := js_ws_of 1664 (by decide +kernel) (by decide +kernel)
theorem kw_1665 : (Jvm.Cond.selects "MosaicCatalogueModel" ⟨"MosaicCatalogueModel", "feed", "(C)I"⟩ ⟨"MosaicCatalogueModel", "feed", "(C)I"⟩) ∈ js_ws := js_ws_of 1665 (by decide +kernel) (by decide +kernel)
theorem kw_1667 : (Jvm.Cond.methodLink "MosaicCatalogueLaw" 325 ⟨"MosaicCatalogueModel", "execute", "()I"⟩) ∈ js_ws := js_ws_of 1667 (by decide +kernel) (by decide +kernel)
theorem kw_1668 : (Jvm.Cond.instanceMethod ⟨"MosaicCatalogueModel", "execute", "()I"⟩) ∈ js_ws := js_ws_of 1668 (by decide +kernel) (by decide +kernel)
theorem kw_1669 : (Jvm.Cond.selects "MosaicCatalogueModel" ⟨"MosaicCatalogueModel", "execute", "()I"⟩ ⟨"MosaicCatalogueModel", "execute", "()I"⟩) ∈ js_ws := js_ws_of 1669 (by decide +kernel) (by decide +kernel)
theorem kw_1710 : (Jvm.Cond.methodLink "MosaicCatalogueLaw" 328 ⟨"MosaicCatalogueModel", "errorPosition", "()I"⟩) ∈ js_ws := js_ws_of 1710 (by decide +kernel) (by decide +kernel)
theorem kw_1711 : (Jvm.Cond.instanceMethod ⟨"MosaicCatalogueModel", "errorPosition", "()I"⟩) ∈ js_ws := js_ws_of 1711 (by decide +kernel) (by decide +kernel)
theorem kw_1712 : (Jvm.Cond.selects "MosaicCatalogueModel" ⟨"MosaicCatalogueModel", "errorPosition", "()I"⟩ ⟨"MosaicCatalogueModel", "errorPosition", "()I"⟩) ∈ js_ws := js_ws_of 1712 (by decide +kernel) (by decide +kernel)
theorem kw_1714 : (Jvm.Cond.methodLink "MosaicCatalogueLaw" 331 ⟨"MosaicCatalogueModel", "failedCommand", "()I"⟩) ∈ js_ws := js_ws_of 1714 (by decide +kernel) (by decide +kernel)
theorem kw_1715 : (Jvm.Cond.instanceMethod ⟨"MosaicCatalogueModel", "failedCommand", "()I"⟩) ∈ js_ws := js_ws_of 1715 (by decide +kernel) (by decide +kernel)
theorem kw_1716 : (Jvm.Cond.selects "MosaicCatalogueModel" ⟨"MosaicCatalogueModel", "failedCommand", "()I"⟩ ⟨"MosaicCatalogueModel", "failedCommand", "()I"⟩) ∈ js_ws := js_ws_of 1716 (by decide +kernel) (by decide +kernel)
theorem kw_1718 : (Jvm.Cond.methodLink "MosaicCatalogueLaw" 334 ⟨"MosaicCatalogueModel", "undo", "()I"⟩) ∈ js_ws := js_ws_of 1718 (by decide +kernel) (by decide +kernel)
theorem kw_1719 : (Jvm.Cond.instanceMethod ⟨"MosaicCatalogueModel", "undo", "()I"⟩) ∈ js_ws := js_ws_of 1719 (by decide +kernel) (by decide +kernel)
theorem kw_1720 : (Jvm.Cond.selects "MosaicCatalogueModel" ⟨"MosaicCatalogueModel", "undo", "()I"⟩ ⟨"MosaicCatalogueModel", "undo", "()I"⟩) ∈ js_ws := js_ws_of 1720 (by decide +kernel) (by decide +kernel)
theorem kw_1722 : (Jvm.Cond.methodLink "MosaicCatalogueLaw" 338 ⟨"MosaicCatalogueModel", "undoCount", "()I"⟩) ∈ js_ws := js_ws_of 1722 (by decide +kernel) (by decide +kernel)
theorem kw_1723 : (Jvm.Cond.instanceMethod ⟨"MosaicCatalogueModel", "undoCount", "()I"⟩) ∈ js_ws := js_ws_of 1723 (by decide +kernel) (by decide +kernel)
theorem kw_1724 : (Jvm.Cond.selects "MosaicCatalogueModel" ⟨"MosaicCatalogueModel", "undoCount", "()I"⟩ ⟨"MosaicCatalogueModel", "undoCount", "()I"⟩) ∈ js_ws := js_ws_of 1724 (by decide +kernel) (by decide +kernel)
theorem kw_1726 : (Jvm.Cond.methodLink "MosaicCatalogueLaw" 342 ⟨"MosaicCatalogueModel", "save", "()I"⟩) ∈ js_ws := js_ws_of 1726 (by decide +kernel) (by decide +kernel)
theorem kw_1727 : (Jvm.Cond.instanceMethod ⟨"MosaicCatalogueModel", "save", "()I"⟩) ∈ js_ws := js_ws_of 1727 (by decide +kernel) (by decide +kernel)
theorem kw_1728 : (Jvm.Cond.selects "MosaicCatalogueModel" ⟨"MosaicCatalogueModel", "save", "()I"⟩ ⟨"MosaicCatalogueModel", "save", "()I"⟩) ∈ js_ws := js_ws_of 1728 (by decide +kernel) (by decide +kernel)
theorem kw_1730 : (Jvm.Cond.methodLink "MosaicCatalogueLaw" 345 ⟨"MosaicCatalogueModel", "restore", "()I"⟩) ∈ js_ws := js_ws_of 1730 (by decide +kernel) (by decide +kernel)
theorem kw_1731 : (Jvm.Cond.instanceMethod ⟨"MosaicCatalogueModel", "restore", "()I"⟩) ∈ js_ws := js_ws_of 1731 (by decide +kernel) (by decide +kernel)
theorem kw_1732 : (Jvm.Cond.selects "MosaicCatalogueModel" ⟨"MosaicCatalogueModel", "restore", "()I"⟩ ⟨"MosaicCatalogueModel", "restore", "()I"⟩) ∈ js_ws := js_ws_of 1732 (by decide +kernel) (by decide +kernel)
theorem kw_1734 : (Jvm.Cond.arrayClass FieldType.long) ∈ js_ws := js_ws_of 1734 (by decide +kernel) (by decide +kernel)
theorem kw_1735 : (Jvm.Cond.arrayClass FieldType.double) ∈ js_ws := js_ws_of 1735 (by decide +kernel) (by decide +kernel)
theorem kn_447 : (Jvm.Cond.castable "java/util/NoSuchElementException" "java/util/NoSuchElementException") ∈ lw_tbl := List.mem_of_getElem? (i := 447) (by decide +kernel)
theorem kn_519 : (Jvm.Cond.castable "java/lang/IndexOutOfBoundsException" "java/lang/IndexOutOfBoundsException") ∈ lw_tbl := List.mem_of_getElem? (i := 519) (by decide +kernel)
theorem kn_535 : (Jvm.Cond.castable "java/lang/IllegalArgumentException" "java/lang/IllegalArgumentException") ∈ lw_tbl := List.mem_of_getElem? (i := 535) (by decide +kernel)
theorem kn_551 : (Jvm.Cond.castable "java/lang/IllegalStateException" "java/lang/IllegalStateException") ∈ lw_tbl := List.mem_of_getElem? (i := 551) (by decide +kernel)
theorem kn_856 : (Jvm.Cond.castable "java/lang/UnsupportedOperationException" "java/lang/UnsupportedOperationException") ∈ lw_tbl := List.mem_of_getElem? (i := 856) (by decide +kernel)
theorem kn_1006 : (Jvm.Cond.castable "java/lang/ArithmeticException" "java/lang/ArithmeticException") ∈ lw_tbl := List.mem_of_getElem? (i := 1006) (by decide +kernel)
theorem kc_59 : js_code 59 ∈ js_ws := js_ws_of 104 (by decide +kernel) (by decide +kernel)
theorem kc_60 : js_code 60 ∈ js_ws := js_ws_of 678 (by decide +kernel) (by decide +kernel)
theorem kc_61 : js_code 61 ∈ js_ws := js_ws_of 696 (by decide +kernel) (by decide +kernel)
theorem kc_62 : js_code 62 ∈ js_ws := js_ws_of 307 (by decide +kernel) (by decide +kernel)
theorem kc_63 : js_code 63 ∈ js_ws := js_ws_of 311 (by decide +kernel) (by decide +kernel)
theorem kc_64 : js_code 64 ∈ js_ws := js_ws_of 728 (by decide +kernel) (by decide +kernel)
theorem kc_65 : js_code 65 ∈ js_ws := js_ws_of 323 (by decide +kernel) (by decide +kernel)
theorem kc_66 : js_code 66 ∈ js_ws := js_ws_of 740 (by decide +kernel) (by decide +kernel)
theorem kc_67 : js_code 67 ∈ js_ws := js_ws_of 751 (by decide +kernel) (by decide +kernel)
theorem kc_68 : js_code 68 ∈ js_ws := js_ws_of 758 (by decide +kernel) (by decide +kernel)
theorem kc_69 : js_code 69 ∈ js_ws := js_ws_of 770 (by decide +kernel) (by decide +kernel)
theorem kc_70 : js_code 70 ∈ js_ws := js_ws_of 778 (by decide +kernel) (by decide +kernel)
theorem kc_71 : js_code 71 ∈ js_ws := js_ws_of 335 (by decide +kernel) (by decide +kernel)
theorem kc_72 : js_code 72 ∈ js_ws := js_ws_of 790 (by decide +kernel) (by decide +kernel)
theorem kc_73 : js_code 73 ∈ js_ws := js_ws_of 807 (by decide +kernel) (by decide +kernel)
theorem kc_74 : js_code 74 ∈ js_ws := js_ws_of 818 (by decide +kernel) (by decide +kernel)
theorem kc_75 : js_code 75 ∈ js_ws := js_ws_of 829 (by decide +kernel) (by decide +kernel)
theorem kc_76 : js_code 76 ∈ js_ws := js_ws_of 842 (by decide +kernel) (by decide +kernel)
theorem kc_77 : js_code 77 ∈ js_ws := js_ws_of 349 (by decide +kernel) (by decide +kernel)
theorem kc_78 : js_code 78 ∈ js_ws := js_ws_of 884 (by decide +kernel) (by decide +kernel)
theorem kc_79 : js_code 79 ∈ js_ws := js_ws_of 891 (by decide +kernel) (by decide +kernel)
theorem kc_81 : js_code 81 ∈ js_ws := js_ws_of 899 (by decide +kernel) (by decide +kernel)
theorem kc_84 : js_code 84 ∈ js_ws := js_ws_of 595 (by decide +kernel) (by decide +kernel)
theorem kc_85 : js_code 85 ∈ js_ws := js_ws_of 606 (by decide +kernel) (by decide +kernel)
theorem kc_86 : js_code 86 ∈ js_ws := js_ws_of 620 (by decide +kernel) (by decide +kernel)
theorem kc_87 : js_code 87 ∈ js_ws := js_ws_of 908 (by decide +kernel) (by decide +kernel)
theorem kc_88 : js_code 88 ∈ js_ws := js_ws_of 916 (by decide +kernel) (by decide +kernel)
theorem kc_89 : js_code 89 ∈ js_ws := js_ws_of 924 (by decide +kernel) (by decide +kernel)
theorem kc_90 : js_code 90 ∈ js_ws := js_ws_of 932 (by decide +kernel) (by decide +kernel)
theorem kc_91 : js_code 91 ∈ js_ws := js_ws_of 945 (by decide +kernel) (by decide +kernel)
theorem kc_92 : js_code 92 ∈ js_ws := js_ws_of 953 (by decide +kernel) (by decide +kernel)
theorem kc_93 : js_code 93 ∈ js_ws := js_ws_of 960 (by decide +kernel) (by decide +kernel)
theorem kc_96 : js_code 96 ∈ js_ws := js_ws_of 967 (by decide +kernel) (by decide +kernel)
theorem kc_98 : js_code 98 ∈ js_ws := js_ws_of 983 (by decide +kernel) (by decide +kernel)
theorem kc_100 : js_code 100 ∈ js_ws := js_ws_of 1021 (by decide +kernel) (by decide +kernel)
theorem kc_101 : js_code 101 ∈ js_ws := js_ws_of 1033 (by decide +kernel) (by decide +kernel)
theorem kc_102 : js_code 102 ∈ js_ws := js_ws_of 657 (by decide +kernel) (by decide +kernel)
theorem kc_103 : js_code 103 ∈ js_ws := js_ws_of 1040 (by decide +kernel) (by decide +kernel)
theorem kc_104 : js_code 104 ∈ js_ws := js_ws_of 1051 (by decide +kernel) (by decide +kernel)
theorem kc_105 : js_code 105 ∈ js_ws := js_ws_of 1061 (by decide +kernel) (by decide +kernel)
theorem kc_106 : js_code 106 ∈ js_ws := js_ws_of 1069 (by decide +kernel) (by decide +kernel)
theorem kc_107 : js_code 107 ∈ js_ws := js_ws_of 1085 (by decide +kernel) (by decide +kernel)
theorem kc_108 : js_code 108 ∈ js_ws := js_ws_of 1193 (by decide +kernel) (by decide +kernel)
theorem kc_109 : js_code 109 ∈ js_ws := js_ws_of 1201 (by decide +kernel) (by decide +kernel)
theorem kc_110 : js_code 110 ∈ js_ws := js_ws_of 1209 (by decide +kernel) (by decide +kernel)
theorem kc_111 : js_code 111 ∈ js_ws := js_ws_of 664 (by decide +kernel) (by decide +kernel)
theorem kc_112 : js_code 112 ∈ js_ws := js_ws_of 668 (by decide +kernel) (by decide +kernel)
theorem kc_113 : js_code 113 ∈ js_ws := js_ws_of 1221 (by decide +kernel) (by decide +kernel)
theorem kc_133 : js_code 133 ∈ js_ws := js_ws_of 1231 (by decide +kernel) (by decide +kernel)
theorem kc_134 : js_code 134 ∈ js_ws := js_ws_of 1288 (by decide +kernel) (by decide +kernel)
theorem kc_161 : js_code 161 ∈ js_ws := js_ws_of 1292 (by decide +kernel) (by decide +kernel)
theorem kc_163 : js_code 163 ∈ js_ws := js_ws_of 1343 (by decide +kernel) (by decide +kernel)
theorem kc_164 : js_code 164 ∈ js_ws := js_ws_of 1355 (by decide +kernel) (by decide +kernel)
theorem kc_165 : js_code 165 ∈ js_ws := js_ws_of 1359 (by decide +kernel) (by decide +kernel)
theorem kc_166 : js_code 166 ∈ js_ws := js_ws_of 1363 (by decide +kernel) (by decide +kernel)
theorem kc_167 : js_code 167 ∈ js_ws := js_ws_of 1375 (by decide +kernel) (by decide +kernel)
theorem kc_168 : js_code 168 ∈ js_ws := js_ws_of 1379 (by decide +kernel) (by decide +kernel)
theorem kc_169 : js_code 169 ∈ js_ws := js_ws_of 1383 (by decide +kernel) (by decide +kernel)
theorem kc_170 : js_code 170 ∈ js_ws := js_ws_of 1387 (by decide +kernel) (by decide +kernel)
theorem kc_171 : js_code 171 ∈ js_ws := js_ws_of 1395 (by decide +kernel) (by decide +kernel)
theorem kc_172 : js_code 172 ∈ js_ws := js_ws_of 1399 (by decide +kernel) (by decide +kernel)
theorem kc_173 : js_code 173 ∈ js_ws := js_ws_of 1407 (by decide +kernel) (by decide +kernel)
theorem kc_176 : js_code 176 ∈ js_ws := js_ws_of 1411 (by decide +kernel) (by decide +kernel)
theorem kc_178 : js_code 178 ∈ js_ws := js_ws_of 1445 (by decide +kernel) (by decide +kernel)
theorem kc_180 : js_code 180 ∈ js_ws := js_ws_of 1453 (by decide +kernel) (by decide +kernel)
theorem kc_182 : js_code 182 ∈ js_ws := js_ws_of 1461 (by decide +kernel) (by decide +kernel)
theorem kc_191 : js_code 191 ∈ js_ws := js_ws_of 1473 (by decide +kernel) (by decide +kernel)
theorem kc_194 : js_code 194 ∈ js_ws := js_ws_of 1517 (by decide +kernel) (by decide +kernel)
theorem kc_195 : js_code 195 ∈ js_ws := js_ws_of 1530 (by decide +kernel) (by decide +kernel)
theorem kc_196 : js_code 196 ∈ js_ws := js_ws_of 1534 (by decide +kernel) (by decide +kernel)
theorem kc_197 : js_code 197 ∈ js_ws := js_ws_of 1538 (by decide +kernel) (by decide +kernel)
theorem kc_198 : js_code 198 ∈ js_ws := js_ws_of 1542 (by decide +kernel) (by decide +kernel)
theorem kc_199 : js_code 199 ∈ js_ws := js_ws_of 1546 (by decide +kernel) (by decide +kernel)
theorem kc_200 : js_code 200 ∈ js_ws := js_ws_of 1550 (by decide +kernel) (by decide +kernel)
theorem kc_201 : js_code 201 ∈ js_ws := js_ws_of 1554 (by decide +kernel) (by decide +kernel)
theorem kc_202 : js_code 202 ∈ js_ws := js_ws_of 1558 (by decide +kernel) (by decide +kernel)
theorem kc_204 : js_code 204 ∈ js_ws := js_ws_of 1566 (by decide +kernel) (by decide +kernel)
theorem kc_205 : js_code 205 ∈ js_ws := js_ws_of 1571 (by decide +kernel) (by decide +kernel)
theorem kc_206 : js_code 206 ∈ js_ws := js_ws_of 1575 (by decide +kernel) (by decide +kernel)
theorem kc_207 : js_code 207 ∈ js_ws := js_ws_of 1579 (by decide +kernel) (by decide +kernel)
theorem kc_208 : js_code 208 ∈ js_ws := js_ws_of 1583 (by decide +kernel) (by decide +kernel)
theorem kc_209 : js_code 209 ∈ js_ws := js_ws_of 1587 (by decide +kernel) (by decide +kernel)
theorem kc_210 : js_code 210 ∈ js_ws := js_ws_of 1591 (by decide +kernel) (by decide +kernel)
theorem kc_214 : js_code 214 ∈ js_ws := js_ws_of 1603 (by decide +kernel) (by decide +kernel)
theorem kc_215 : js_code 215 ∈ js_ws := js_ws_of 1608 (by decide +kernel) (by decide +kernel)
theorem kc_216 : js_code 216 ∈ js_ws := js_ws_of 1615 (by decide +kernel) (by decide +kernel)
theorem kc_217 : js_code 217 ∈ js_ws := js_ws_of 1619 (by decide +kernel) (by decide +kernel)
theorem kc_219 : js_code 219 ∈ js_ws := js_ws_of 1627 (by decide +kernel) (by decide +kernel)
theorem kc_220 : js_code 220 ∈ js_ws := js_ws_of 1642 (by decide +kernel) (by decide +kernel)
theorem kc_221 : js_code 221 ∈ js_ws := js_ws_of 1646 (by decide +kernel) (by decide +kernel)
theorem kc_223 : js_code 223 ∈ js_ws := js_ws_of 1650 (by decide +kernel) (by decide +kernel)
theorem kc_224 : js_code 224 ∈ js_ws := js_ws_of 1658 (by decide +kernel) (by decide +kernel)
theorem kc_225 : js_code 225 ∈ js_ws := js_ws_of 1662 (by decide +kernel) (by decide +kernel)
theorem kc_226 : js_code 226 ∈ js_ws := js_ws_of 1666 (by decide +kernel) (by decide +kernel)
theorem kc_234 : js_code 234 ∈ js_ws := js_ws_of 1670 (by decide +kernel) (by decide +kernel)
theorem kc_235 : js_code 235 ∈ js_ws := js_ws_of 1713 (by decide +kernel) (by decide +kernel)
theorem kc_236 : js_code 236 ∈ js_ws := js_ws_of 1717 (by decide +kernel) (by decide +kernel)
theorem kc_237 : js_code 237 ∈ js_ws := js_ws_of 1721 (by decide +kernel) (by decide +kernel)
theorem kc_238 : js_code 238 ∈ js_ws := js_ws_of 1725 (by decide +kernel) (by decide +kernel)
theorem kc_239 : js_code 239 ∈ js_ws := js_ws_of 1729 (by decide +kernel) (by decide +kernel)
theorem kc_240 : js_code 240 ∈ js_ws := js_ws_of 1733 (by decide +kernel) (by decide +kernel)
theorem kl_59_0 : ((js_y 59).cls ≠ "java/lang/invoke/MethodHandle" ∧ (js_y 59).cls ≠ "java/lang/invoke/VarHandle" ∧ (parseMethodDescriptor (js_y 59).desc).map (fun d => d.parameters.length) = some 0) := by decide +kernel
theorem kl_60_5 : ((js_y 60).cls ≠ "java/lang/invoke/MethodHandle" ∧ (js_y 60).cls ≠ "java/lang/invoke/VarHandle" ∧ (parseMethodDescriptor (js_y 60).desc).map (fun d => d.parameters.length) = some 5) := by decide +kernel
theorem kl_61_1 : ((js_y 61).cls ≠ "java/lang/invoke/MethodHandle" ∧ (js_y 61).cls ≠ "java/lang/invoke/VarHandle" ∧ (parseMethodDescriptor (js_y 61).desc).map (fun d => d.parameters.length) = some 1) := by decide +kernel
theorem kl_62_0 : ((js_y 62).cls ≠ "java/lang/invoke/MethodHandle" ∧ (js_y 62).cls ≠ "java/lang/invoke/VarHandle" ∧ (parseMethodDescriptor (js_y 62).desc).map (fun d => d.parameters.length) = some 0) := by decide +kernel
theorem kl_63_0 : ((js_y 63).cls ≠ "java/lang/invoke/MethodHandle" ∧ (js_y 63).cls ≠ "java/lang/invoke/VarHandle" ∧ (parseMethodDescriptor (js_y 63).desc).map (fun d => d.parameters.length) = some 0) := by decide +kernel
theorem kl_64_1 : ((js_y 64).cls ≠ "java/lang/invoke/MethodHandle" ∧ (js_y 64).cls ≠ "java/lang/invoke/VarHandle" ∧ (parseMethodDescriptor (js_y 64).desc).map (fun d => d.parameters.length) = some 1) := by decide +kernel
theorem kl_65_1 : ((js_y 65).cls ≠ "java/lang/invoke/MethodHandle" ∧ (js_y 65).cls ≠ "java/lang/invoke/VarHandle" ∧ (parseMethodDescriptor (js_y 65).desc).map (fun d => d.parameters.length) = some 1) := by decide +kernel
theorem kl_66_1 : ((js_y 66).cls ≠ "java/lang/invoke/MethodHandle" ∧ (js_y 66).cls ≠ "java/lang/invoke/VarHandle" ∧ (parseMethodDescriptor (js_y 66).desc).map (fun d => d.parameters.length) = some 1) := by decide +kernel
theorem kl_67_1 : ((js_y 67).cls ≠ "java/lang/invoke/MethodHandle" ∧ (js_y 67).cls ≠ "java/lang/invoke/VarHandle" ∧ (parseMethodDescriptor (js_y 67).desc).map (fun d => d.parameters.length) = some 1) := by decide +kernel
theorem kl_68_2 : ((js_y 68).cls ≠ "java/lang/invoke/MethodHandle" ∧ (js_y 68).cls ≠ "java/lang/invoke/VarHandle" ∧ (parseMethodDescriptor (js_y 68).desc).map (fun d => d.parameters.length) = some 2) := by decide +kernel
theorem kl_69_1 : ((js_y 69).cls ≠ "java/lang/invoke/MethodHandle" ∧ (js_y 69).cls ≠ "java/lang/invoke/VarHandle" ∧ (parseMethodDescriptor (js_y 69).desc).map (fun d => d.parameters.length) = some 1) := by decide +kernel
theorem kl_70_1 : ((js_y 70).cls ≠ "java/lang/invoke/MethodHandle" ∧ (js_y 70).cls ≠ "java/lang/invoke/VarHandle" ∧ (parseMethodDescriptor (js_y 70).desc).map (fun d => d.parameters.length) = some 1) := by decide +kernel
theorem kl_71_0 : ((js_y 71).cls ≠ "java/lang/invoke/MethodHandle" ∧ (js_y 71).cls ≠ "java/lang/invoke/VarHandle" ∧ (parseMethodDescriptor (js_y 71).desc).map (fun d => d.parameters.length) = some 0) := by decide +kernel
theorem kl_72_3 : ((js_y 72).cls ≠ "java/lang/invoke/MethodHandle" ∧ (js_y 72).cls ≠ "java/lang/invoke/VarHandle" ∧ (parseMethodDescriptor (js_y 72).desc).map (fun d => d.parameters.length) = some 3) := by decide +kernel
theorem kl_73_1 : ((js_y 73).cls ≠ "java/lang/invoke/MethodHandle" ∧ (js_y 73).cls ≠ "java/lang/invoke/VarHandle" ∧ (parseMethodDescriptor (js_y 73).desc).map (fun d => d.parameters.length) = some 1) := by decide +kernel
theorem kl_74_2 : ((js_y 74).cls ≠ "java/lang/invoke/MethodHandle" ∧ (js_y 74).cls ≠ "java/lang/invoke/VarHandle" ∧ (parseMethodDescriptor (js_y 74).desc).map (fun d => d.parameters.length) = some 2) := by decide +kernel
theorem kl_75_2 : ((js_y 75).cls ≠ "java/lang/invoke/MethodHandle" ∧ (js_y 75).cls ≠ "java/lang/invoke/VarHandle" ∧ (parseMethodDescriptor (js_y 75).desc).map (fun d => d.parameters.length) = some 2) := by decide +kernel
theorem kl_76_2 : ((js_y 76).cls ≠ "java/lang/invoke/MethodHandle" ∧ (js_y 76).cls ≠ "java/lang/invoke/VarHandle" ∧ (parseMethodDescriptor (js_y 76).desc).map (fun d => d.parameters.length) = some 2) := by decide +kernel
theorem kl_77_0 : ((js_y 77).cls ≠ "java/lang/invoke/MethodHandle" ∧ (js_y 77).cls ≠ "java/lang/invoke/VarHandle" ∧ (parseMethodDescriptor (js_y 77).desc).map (fun d => d.parameters.length) = some 0) := by decide +kernel
theorem kl_78_2 : ((js_y 78).cls ≠ "java/lang/invoke/MethodHandle" ∧ (js_y 78).cls ≠ "java/lang/invoke/VarHandle" ∧ (parseMethodDescriptor (js_y 78).desc).map (fun d => d.parameters.length) = some 2) := by decide +kernel
theorem kl_79_2 : ((js_y 79).cls ≠ "java/lang/invoke/MethodHandle" ∧ (js_y 79).cls ≠ "java/lang/invoke/VarHandle" ∧ (parseMethodDescriptor (js_y 79).desc).map (fun d => d.parameters.length) = some 2) := by decide +kernel
theorem kl_81_1 : ((js_y 81).cls ≠ "java/lang/invoke/MethodHandle" ∧ (js_y 81).cls ≠ "java/lang/invoke/VarHandle" ∧ (parseMethodDescriptor (js_y 81).desc).map (fun d => d.parameters.length) = some 1) := by decide +kernel
theorem kl_84_0 : ((js_y 84).cls ≠ "java/lang/invoke/MethodHandle" ∧ (js_y 84).cls ≠ "java/lang/invoke/VarHandle" ∧ (parseMethodDescriptor (js_y 84).desc).map (fun d => d.parameters.length) = some 0) := by decide +kernel
theorem kl_85_0 : ((js_y 85).cls ≠ "java/lang/invoke/MethodHandle" ∧ (js_y 85).cls ≠ "java/lang/invoke/VarHandle" ∧ (parseMethodDescriptor (js_y 85).desc).map (fun d => d.parameters.length) = some 0) := by decide +kernel
theorem kl_86_0 : ((js_y 86).cls ≠ "java/lang/invoke/MethodHandle" ∧ (js_y 86).cls ≠ "java/lang/invoke/VarHandle" ∧ (parseMethodDescriptor (js_y 86).desc).map (fun d => d.parameters.length) = some 0) := by decide +kernel
theorem kl_87_2 : ((js_y 87).cls ≠ "java/lang/invoke/MethodHandle" ∧ (js_y 87).cls ≠ "java/lang/invoke/VarHandle" ∧ (parseMethodDescriptor (js_y 87).desc).map (fun d => d.parameters.length) = some 2) := by decide +kernel
theorem kl_88_1 : ((js_y 88).cls ≠ "java/lang/invoke/MethodHandle" ∧ (js_y 88).cls ≠ "java/lang/invoke/VarHandle" ∧ (parseMethodDescriptor (js_y 88).desc).map (fun d => d.parameters.length) = some 1) := by decide +kernel
theorem kl_89_2 : ((js_y 89).cls ≠ "java/lang/invoke/MethodHandle" ∧ (js_y 89).cls ≠ "java/lang/invoke/VarHandle" ∧ (parseMethodDescriptor (js_y 89).desc).map (fun d => d.parameters.length) = some 2) := by decide +kernel
theorem kl_90_4 : ((js_y 90).cls ≠ "java/lang/invoke/MethodHandle" ∧ (js_y 90).cls ≠ "java/lang/invoke/VarHandle" ∧ (parseMethodDescriptor (js_y 90).desc).map (fun d => d.parameters.length) = some 4) := by decide +kernel
theorem kl_91_3 : ((js_y 91).cls ≠ "java/lang/invoke/MethodHandle" ∧ (js_y 91).cls ≠ "java/lang/invoke/VarHandle" ∧ (parseMethodDescriptor (js_y 91).desc).map (fun d => d.parameters.length) = some 3) := by decide +kernel
theorem kl_92_2 : ((js_y 92).cls ≠ "java/lang/invoke/MethodHandle" ∧ (js_y 92).cls ≠ "java/lang/invoke/VarHandle" ∧ (parseMethodDescriptor (js_y 92).desc).map (fun d => d.parameters.length) = some 2) := by decide +kernel
theorem kl_93_3 : ((js_y 93).cls ≠ "java/lang/invoke/MethodHandle" ∧ (js_y 93).cls ≠ "java/lang/invoke/VarHandle" ∧ (parseMethodDescriptor (js_y 93).desc).map (fun d => d.parameters.length) = some 3) := by decide +kernel
theorem kl_96_1 : ((js_y 96).cls ≠ "java/lang/invoke/MethodHandle" ∧ (js_y 96).cls ≠ "java/lang/invoke/VarHandle" ∧ (parseMethodDescriptor (js_y 96).desc).map (fun d => d.parameters.length) = some 1) := by decide +kernel
theorem kl_98_0 : ((js_y 98).cls ≠ "java/lang/invoke/MethodHandle" ∧ (js_y 98).cls ≠ "java/lang/invoke/VarHandle" ∧ (parseMethodDescriptor (js_y 98).desc).map (fun d => d.parameters.length) = some 0) := by decide +kernel
theorem kl_100_0 : ((js_y 100).cls ≠ "java/lang/invoke/MethodHandle" ∧ (js_y 100).cls ≠ "java/lang/invoke/VarHandle" ∧ (parseMethodDescriptor (js_y 100).desc).map (fun d => d.parameters.length) = some 0) := by decide +kernel
theorem kl_101_0 : ((js_y 101).cls ≠ "java/lang/invoke/MethodHandle" ∧ (js_y 101).cls ≠ "java/lang/invoke/VarHandle" ∧ (parseMethodDescriptor (js_y 101).desc).map (fun d => d.parameters.length) = some 0) := by decide +kernel
theorem kl_102_0 : ((js_y 102).cls ≠ "java/lang/invoke/MethodHandle" ∧ (js_y 102).cls ≠ "java/lang/invoke/VarHandle" ∧ (parseMethodDescriptor (js_y 102).desc).map (fun d => d.parameters.length) = some 0) := by decide +kernel
theorem kl_103_1 : ((js_y 103).cls ≠ "java/lang/invoke/MethodHandle" ∧ (js_y 103).cls ≠ "java/lang/invoke/VarHandle" ∧ (parseMethodDescriptor (js_y 103).desc).map (fun d => d.parameters.length) = some 1) := by decide +kernel
theorem kl_104_1 : ((js_y 104).cls ≠ "java/lang/invoke/MethodHandle" ∧ (js_y 104).cls ≠ "java/lang/invoke/VarHandle" ∧ (parseMethodDescriptor (js_y 104).desc).map (fun d => d.parameters.length) = some 1) := by decide +kernel
theorem kl_105_1 : ((js_y 105).cls ≠ "java/lang/invoke/MethodHandle" ∧ (js_y 105).cls ≠ "java/lang/invoke/VarHandle" ∧ (parseMethodDescriptor (js_y 105).desc).map (fun d => d.parameters.length) = some 1) := by decide +kernel
theorem kl_106_1 : ((js_y 106).cls ≠ "java/lang/invoke/MethodHandle" ∧ (js_y 106).cls ≠ "java/lang/invoke/VarHandle" ∧ (parseMethodDescriptor (js_y 106).desc).map (fun d => d.parameters.length) = some 1) := by decide +kernel
theorem kl_107_0 : ((js_y 107).cls ≠ "java/lang/invoke/MethodHandle" ∧ (js_y 107).cls ≠ "java/lang/invoke/VarHandle" ∧ (parseMethodDescriptor (js_y 107).desc).map (fun d => d.parameters.length) = some 0) := by decide +kernel
theorem kl_108_0 : ((js_y 108).cls ≠ "java/lang/invoke/MethodHandle" ∧ (js_y 108).cls ≠ "java/lang/invoke/VarHandle" ∧ (parseMethodDescriptor (js_y 108).desc).map (fun d => d.parameters.length) = some 0) := by decide +kernel
theorem kl_109_0 : ((js_y 109).cls ≠ "java/lang/invoke/MethodHandle" ∧ (js_y 109).cls ≠ "java/lang/invoke/VarHandle" ∧ (parseMethodDescriptor (js_y 109).desc).map (fun d => d.parameters.length) = some 0) := by decide +kernel
theorem kl_110_0 : ((js_y 110).cls ≠ "java/lang/invoke/MethodHandle" ∧ (js_y 110).cls ≠ "java/lang/invoke/VarHandle" ∧ (parseMethodDescriptor (js_y 110).desc).map (fun d => d.parameters.length) = some 0) := by decide +kernel
theorem kl_111_0 : ((js_y 111).cls ≠ "java/lang/invoke/MethodHandle" ∧ (js_y 111).cls ≠ "java/lang/invoke/VarHandle" ∧ (parseMethodDescriptor (js_y 111).desc).map (fun d => d.parameters.length) = some 0) := by decide +kernel
theorem kl_112_0 : ((js_y 112).cls ≠ "java/lang/invoke/MethodHandle" ∧ (js_y 112).cls ≠ "java/lang/invoke/VarHandle" ∧ (parseMethodDescriptor (js_y 112).desc).map (fun d => d.parameters.length) = some 0) := by decide +kernel
theorem kl_113_0 : ((js_y 113).cls ≠ "java/lang/invoke/MethodHandle" ∧ (js_y 113).cls ≠ "java/lang/invoke/VarHandle" ∧ (parseMethodDescriptor (js_y 113).desc).map (fun d => d.parameters.length) = some 0) := by decide +kernel
theorem kl_133_0 : ((js_y 133).cls ≠ "java/lang/invoke/MethodHandle" ∧ (js_y 133).cls ≠ "java/lang/invoke/VarHandle" ∧ (parseMethodDescriptor (js_y 133).desc).map (fun d => d.parameters.length) = some 0) := by decide +kernel
theorem kl_134_0 : ((js_y 134).cls ≠ "java/lang/invoke/MethodHandle" ∧ (js_y 134).cls ≠ "java/lang/invoke/VarHandle" ∧ (parseMethodDescriptor (js_y 134).desc).map (fun d => d.parameters.length) = some 0) := by decide +kernel
theorem kl_161_5 : ((js_y 161).cls ≠ "java/lang/invoke/MethodHandle" ∧ (js_y 161).cls ≠ "java/lang/invoke/VarHandle" ∧ (parseMethodDescriptor (js_y 161).desc).map (fun d => d.parameters.length) = some 5) := by decide +kernel
theorem kl_163_1 : ((js_y 163).cls ≠ "java/lang/invoke/MethodHandle" ∧ (js_y 163).cls ≠ "java/lang/invoke/VarHandle" ∧ (parseMethodDescriptor (js_y 163).desc).map (fun d => d.parameters.length) = some 1) := by decide +kernel
theorem kl_164_0 : ((js_y 164).cls ≠ "java/lang/invoke/MethodHandle" ∧ (js_y 164).cls ≠ "java/lang/invoke/VarHandle" ∧ (parseMethodDescriptor (js_y 164).desc).map (fun d => d.parameters.length) = some 0) := by decide +kernel
theorem kl_165_0 : ((js_y 165).cls ≠ "java/lang/invoke/MethodHandle" ∧ (js_y 165).cls ≠ "java/lang/invoke/VarHandle" ∧ (parseMethodDescriptor (js_y 165).desc).map (fun d => d.parameters.length) = some 0) := by decide +kernel
theorem kl_166_1 : ((js_y 166).cls ≠ "java/lang/invoke/MethodHandle" ∧ (js_y 166).cls ≠ "java/lang/invoke/VarHandle" ∧ (parseMethodDescriptor (js_y 166).desc).map (fun d => d.parameters.length) = some 1) := by decide +kernel
theorem kl_167_1 : ((js_y 167).cls ≠ "java/lang/invoke/MethodHandle" ∧ (js_y 167).cls ≠ "java/lang/invoke/VarHandle" ∧ (parseMethodDescriptor (js_y 167).desc).map (fun d => d.parameters.length) = some 1) := by decide +kernel
theorem kl_168_1 : ((js_y 168).cls ≠ "java/lang/invoke/MethodHandle" ∧ (js_y 168).cls ≠ "java/lang/invoke/VarHandle" ∧ (parseMethodDescriptor (js_y 168).desc).map (fun d => d.parameters.length) = some 1) := by decide +kernel
theorem kl_169_1 : ((js_y 169).cls ≠ "java/lang/invoke/MethodHandle" ∧ (js_y 169).cls ≠ "java/lang/invoke/VarHandle" ∧ (parseMethodDescriptor (js_y 169).desc).map (fun d => d.parameters.length) = some 1) := by decide +kernel
theorem kl_170_2 : ((js_y 170).cls ≠ "java/lang/invoke/MethodHandle" ∧ (js_y 170).cls ≠ "java/lang/invoke/VarHandle" ∧ (parseMethodDescriptor (js_y 170).desc).map (fun d => d.parameters.length) = some 2) := by decide +kernel
theorem kl_171_1 : ((js_y 171).cls ≠ "java/lang/invoke/MethodHandle" ∧ (js_y 171).cls ≠ "java/lang/invoke/VarHandle" ∧ (parseMethodDescriptor (js_y 171).desc).map (fun d => d.parameters.length) = some 1) := by decide +kernel
theorem kl_172_1 : ((js_y 172).cls ≠ "java/lang/invoke/MethodHandle" ∧ (js_y 172).cls ≠ "java/lang/invoke/VarHandle" ∧ (parseMethodDescriptor (js_y 172).desc).map (fun d => d.parameters.length) = some 1) := by decide +kernel
theorem kl_173_0 : ((js_y 173).cls ≠ "java/lang/invoke/MethodHandle" ∧ (js_y 173).cls ≠ "java/lang/invoke/VarHandle" ∧ (parseMethodDescriptor (js_y 173).desc).map (fun d => d.parameters.length) = some 0) := by decide +kernel
theorem kl_176_3 : ((js_y 176).cls ≠ "java/lang/invoke/MethodHandle" ∧ (js_y 176).cls ≠ "java/lang/invoke/VarHandle" ∧ (parseMethodDescriptor (js_y 176).desc).map (fun d => d.parameters.length) = some 3) := by decide +kernel
theorem kl_178_1 : ((js_y 178).cls ≠ "java/lang/invoke/MethodHandle" ∧ (js_y 178).cls ≠ "java/lang/invoke/VarHandle" ∧ (parseMethodDescriptor (js_y 178).desc).map (fun d => d.parameters.length) = some 1) := by decide +kernel
theorem kl_180_2 : ((js_y 180).cls ≠ "java/lang/invoke/MethodHandle" ∧ (js_y 180).cls ≠ "java/lang/invoke/VarHandle" ∧ (parseMethodDescriptor (js_y 180).desc).map (fun d => d.parameters.length) = some 2) := by decide +kernel
theorem kl_182_2 : ((js_y 182).cls ≠ "java/lang/invoke/MethodHandle" ∧ (js_y 182).cls ≠ "java/lang/invoke/VarHandle" ∧ (parseMethodDescriptor (js_y 182).desc).map (fun d => d.parameters.length) = some 2) := by decide +kernel
theorem kl_191_2 : ((js_y 191).cls ≠ "java/lang/invoke/MethodHandle" ∧ (js_y 191).cls ≠ "java/lang/invoke/VarHandle" ∧ (parseMethodDescriptor (js_y 191).desc).map (fun d => d.parameters.length) = some 2) := by decide +kernel
theorem kl_194_0 : ((js_y 194).cls ≠ "java/lang/invoke/MethodHandle" ∧ (js_y 194).cls ≠ "java/lang/invoke/VarHandle" ∧ (parseMethodDescriptor (js_y 194).desc).map (fun d => d.parameters.length) = some 0) := by decide +kernel
theorem kl_195_4 : ((js_y 195).cls ≠ "java/lang/invoke/MethodHandle" ∧ (js_y 195).cls ≠ "java/lang/invoke/VarHandle" ∧ (parseMethodDescriptor (js_y 195).desc).map (fun d => d.parameters.length) = some 4) := by decide +kernel
theorem kl_196_3 : ((js_y 196).cls ≠ "java/lang/invoke/MethodHandle" ∧ (js_y 196).cls ≠ "java/lang/invoke/VarHandle" ∧ (parseMethodDescriptor (js_y 196).desc).map (fun d => d.parameters.length) = some 3) := by decide +kernel
theorem kl_197_2 : ((js_y 197).cls ≠ "java/lang/invoke/MethodHandle" ∧ (js_y 197).cls ≠ "java/lang/invoke/VarHandle" ∧ (parseMethodDescriptor (js_y 197).desc).map (fun d => d.parameters.length) = some 2) := by decide +kernel
theorem kl_198_3 : ((js_y 198).cls ≠ "java/lang/invoke/MethodHandle" ∧ (js_y 198).cls ≠ "java/lang/invoke/VarHandle" ∧ (parseMethodDescriptor (js_y 198).desc).map (fun d => d.parameters.length) = some 3) := by decide +kernel
theorem kl_199_2 : ((js_y 199).cls ≠ "java/lang/invoke/MethodHandle" ∧ (js_y 199).cls ≠ "java/lang/invoke/VarHandle" ∧ (parseMethodDescriptor (js_y 199).desc).map (fun d => d.parameters.length) = some 2) := by decide +kernel
theorem kl_200_2 : ((js_y 200).cls ≠ "java/lang/invoke/MethodHandle" ∧ (js_y 200).cls ≠ "java/lang/invoke/VarHandle" ∧ (parseMethodDescriptor (js_y 200).desc).map (fun d => d.parameters.length) = some 2) := by decide +kernel
theorem kl_201_0 : ((js_y 201).cls ≠ "java/lang/invoke/MethodHandle" ∧ (js_y 201).cls ≠ "java/lang/invoke/VarHandle" ∧ (parseMethodDescriptor (js_y 201).desc).map (fun d => d.parameters.length) = some 0) := by decide +kernel
theorem kl_202_1 : ((js_y 202).cls ≠ "java/lang/invoke/MethodHandle" ∧ (js_y 202).cls ≠ "java/lang/invoke/VarHandle" ∧ (parseMethodDescriptor (js_y 202).desc).map (fun d => d.parameters.length) = some 1) := by decide +kernel
theorem kl_204_0 : ((js_y 204).cls ≠ "java/lang/invoke/MethodHandle" ∧ (js_y 204).cls ≠ "java/lang/invoke/VarHandle" ∧ (parseMethodDescriptor (js_y 204).desc).map (fun d => d.parameters.length) = some 0) := by decide +kernel
theorem kl_205_0 : ((js_y 205).cls ≠ "java/lang/invoke/MethodHandle" ∧ (js_y 205).cls ≠ "java/lang/invoke/VarHandle" ∧ (parseMethodDescriptor (js_y 205).desc).map (fun d => d.parameters.length) = some 0) := by decide +kernel
theorem kl_206_0 : ((js_y 206).cls ≠ "java/lang/invoke/MethodHandle" ∧ (js_y 206).cls ≠ "java/lang/invoke/VarHandle" ∧ (parseMethodDescriptor (js_y 206).desc).map (fun d => d.parameters.length) = some 0) := by decide +kernel
theorem kl_207_0 : ((js_y 207).cls ≠ "java/lang/invoke/MethodHandle" ∧ (js_y 207).cls ≠ "java/lang/invoke/VarHandle" ∧ (parseMethodDescriptor (js_y 207).desc).map (fun d => d.parameters.length) = some 0) := by decide +kernel
theorem kl_208_2 : ((js_y 208).cls ≠ "java/lang/invoke/MethodHandle" ∧ (js_y 208).cls ≠ "java/lang/invoke/VarHandle" ∧ (parseMethodDescriptor (js_y 208).desc).map (fun d => d.parameters.length) = some 2) := by decide +kernel
theorem kl_209_1 : ((js_y 209).cls ≠ "java/lang/invoke/MethodHandle" ∧ (js_y 209).cls ≠ "java/lang/invoke/VarHandle" ∧ (parseMethodDescriptor (js_y 209).desc).map (fun d => d.parameters.length) = some 1) := by decide +kernel
theorem kl_210_2 : ((js_y 210).cls ≠ "java/lang/invoke/MethodHandle" ∧ (js_y 210).cls ≠ "java/lang/invoke/VarHandle" ∧ (parseMethodDescriptor (js_y 210).desc).map (fun d => d.parameters.length) = some 2) := by decide +kernel
theorem kl_214_0 : ((js_y 214).cls ≠ "java/lang/invoke/MethodHandle" ∧ (js_y 214).cls ≠ "java/lang/invoke/VarHandle" ∧ (parseMethodDescriptor (js_y 214).desc).map (fun d => d.parameters.length) = some 0) := by decide +kernel
theorem kl_215_1 : ((js_y 215).cls ≠ "java/lang/invoke/MethodHandle" ∧ (js_y 215).cls ≠ "java/lang/invoke/VarHandle" ∧ (parseMethodDescriptor (js_y 215).desc).map (fun d => d.parameters.length) = some 1) := by decide +kernel
theorem kl_216_1 : ((js_y 216).cls ≠ "java/lang/invoke/MethodHandle" ∧ (js_y 216).cls ≠ "java/lang/invoke/VarHandle" ∧ (parseMethodDescriptor (js_y 216).desc).map (fun d => d.parameters.length) = some 1) := by decide +kernel
theorem kl_217_0 : ((js_y 217).cls ≠ "java/lang/invoke/MethodHandle" ∧ (js_y 217).cls ≠ "java/lang/invoke/VarHandle" ∧ (parseMethodDescriptor (js_y 217).desc).map (fun d => d.parameters.length) = some 0) := by decide +kernel
theorem kl_219_0 : ((js_y 219).cls ≠ "java/lang/invoke/MethodHandle" ∧ (js_y 219).cls ≠ "java/lang/invoke/VarHandle" ∧ (parseMethodDescriptor (js_y 219).desc).map (fun d => d.parameters.length) = some 0) := by decide +kernel
theorem kl_220_0 : ((js_y 220).cls ≠ "java/lang/invoke/MethodHandle" ∧ (js_y 220).cls ≠ "java/lang/invoke/VarHandle" ∧ (parseMethodDescriptor (js_y 220).desc).map (fun d => d.parameters.length) = some 0) := by decide +kernel
theorem kl_221_0 : ((js_y 221).cls ≠ "java/lang/invoke/MethodHandle" ∧ (js_y 221).cls ≠ "java/lang/invoke/VarHandle" ∧ (parseMethodDescriptor (js_y 221).desc).map (fun d => d.parameters.length) = some 0) := by decide +kernel
theorem kl_223_1 : ((js_y 223).cls ≠ "java/lang/invoke/MethodHandle" ∧ (js_y 223).cls ≠ "java/lang/invoke/VarHandle" ∧ (parseMethodDescriptor (js_y 223).desc).map (fun d => d.parameters.length) = some 1) := by decide +kernel
theorem kl_224_1 : ((js_y 224).cls ≠ "java/lang/invoke/MethodHandle" ∧ (js_y 224).cls ≠ "java/lang/invoke/VarHandle" ∧ (parseMethodDescriptor (js_y 224).desc).map (fun d => d.parameters.length) = some 1) := by decide +kernel
theorem kl_225_1 : ((js_y 225).cls ≠ "java/lang/invoke/MethodHandle" ∧ (js_y 225).cls ≠ "java/lang/invoke/VarHandle" ∧ (parseMethodDescriptor (js_y 225).desc).map (fun d => d.parameters.length) = some 1) := by decide +kernel
theorem kl_226_1 : ((js_y 226).cls ≠ "java/lang/invoke/MethodHandle" ∧ (js_y 226).cls ≠ "java/lang/invoke/VarHandle" ∧ (parseMethodDescriptor (js_y 226).desc).map (fun d => d.parameters.length) = some 1) := by decide +kernel
theorem kl_234_0 : ((js_y 234).cls ≠ "java/lang/invoke/MethodHandle" ∧ (js_y 234).cls ≠ "java/lang/invoke/VarHandle" ∧ (parseMethodDescriptor (js_y 234).desc).map (fun d => d.parameters.length) = some 0) := by decide +kernel
theorem kl_235_0 : ((js_y 235).cls ≠ "java/lang/invoke/MethodHandle" ∧ (js_y 235).cls ≠ "java/lang/invoke/VarHandle" ∧ (parseMethodDescriptor (js_y 235).desc).map (fun d => d.parameters.length) = some 0) := by decide +kernel
theorem kl_236_0 : ((js_y 236).cls ≠ "java/lang/invoke/MethodHandle" ∧ (js_y 236).cls ≠ "java/lang/invoke/VarHandle" ∧ (parseMethodDescriptor (js_y 236).desc).map (fun d => d.parameters.length) = some 0) := by decide +kernel
theorem kl_237_0 : ((js_y 237).cls ≠ "java/lang/invoke/MethodHandle" ∧ (js_y 237).cls ≠ "java/lang/invoke/VarHandle" ∧ (parseMethodDescriptor (js_y 237).desc).map (fun d => d.parameters.length) = some 0) := by decide +kernel
theorem kl_238_0 : ((js_y 238).cls ≠ "java/lang/invoke/MethodHandle" ∧ (js_y 238).cls ≠ "java/lang/invoke/VarHandle" ∧ (parseMethodDescriptor (js_y 238).desc).map (fun d => d.parameters.length) = some 0) := by decide +kernel
theorem kl_239_0 : ((js_y 239).cls ≠ "java/lang/invoke/MethodHandle" ∧ (js_y 239).cls ≠ "java/lang/invoke/VarHandle" ∧ (parseMethodDescriptor (js_y 239).desc).map (fun d => d.parameters.length) = some 0) := by decide +kernel
theorem kl_240_0 : ((js_y 240).cls ≠ "java/lang/invoke/MethodHandle" ∧ (js_y 240).cls ≠ "java/lang/invoke/VarHandle" ∧ (parseMethodDescriptor (js_y 240).desc).map (fun d => d.parameters.length) = some 0) := by decide +kernel
theorem kk_255_60 : js_lk 255 60 5 := ⟨kc_60, kw_68, kl_60_5, Nat.le_of_ble_eq_true rfl, Nat.le_of_ble_eq_true rfl⟩
theorem kk_256_61 : js_lk 256 61 1 := ⟨kc_61, kw_68, kl_61_1, Nat.le_of_ble_eq_true rfl, Nat.le_of_ble_eq_true rfl⟩
theorem kk_257_64 : js_lk 257 64 1 := ⟨kc_64, kw_68, kl_64_1, Nat.le_of_ble_eq_true rfl, Nat.le_of_ble_eq_true rfl⟩
theorem kk_258_66 : js_lk 258 66 1 := ⟨kc_66, kw_68, kl_66_1, Nat.le_of_ble_eq_true rfl, Nat.le_of_ble_eq_true rfl⟩
theorem kk_259_67 : js_lk 259 67 1 := ⟨kc_67, kw_68, kl_67_1, Nat.le_of_ble_eq_true rfl, Nat.le_of_ble_eq_true rfl⟩
theorem kk_260_68 : js_lk 260 68 2 := ⟨kc_68, kw_68, kl_68_2, Nat.le_of_ble_eq_true rfl, Nat.le_of_ble_eq_true rfl⟩
theorem kk_261_69 : js_lk 261 69 1 := ⟨kc_69, kw_68, kl_69_1, Nat.le_of_ble_eq_true rfl, Nat.le_of_ble_eq_true rfl⟩
theorem kk_262_70 : js_lk 262 70 1 := ⟨kc_70, kw_68, kl_70_1, Nat.le_of_ble_eq_true rfl, Nat.le_of_ble_eq_true rfl⟩
theorem kk_263_72 : js_lk 263 72 3 := ⟨kc_72, kw_68, kl_72_3, Nat.le_of_ble_eq_true rfl, Nat.le_of_ble_eq_true rfl⟩
theorem kk_264_73 : js_lk 264 73 1 := ⟨kc_73, kw_68, kl_73_1, Nat.le_of_ble_eq_true rfl, Nat.le_of_ble_eq_true rfl⟩
theorem kk_265_74 : js_lk 265 74 2 := ⟨kc_74, kw_68, kl_74_2, Nat.le_of_ble_eq_true rfl, Nat.le_of_ble_eq_true rfl⟩
theorem kk_266_75 : js_lk 266 75 2 := ⟨kc_75, kw_68, kl_75_2, Nat.le_of_ble_eq_true rfl, Nat.le_of_ble_eq_true rfl⟩
theorem kk_267_76 : js_lk 267 76 2 := ⟨kc_76, kw_68, kl_76_2, Nat.le_of_ble_eq_true rfl, Nat.le_of_ble_eq_true rfl⟩
theorem kk_268_78 : js_lk 268 78 2 := ⟨kc_78, kw_68, kl_78_2, Nat.le_of_ble_eq_true rfl, Nat.le_of_ble_eq_true rfl⟩
theorem kk_269_79 : js_lk 269 79 2 := ⟨kc_79, kw_68, kl_79_2, Nat.le_of_ble_eq_true rfl, Nat.le_of_ble_eq_true rfl⟩
theorem kk_270_81 : js_lk 270 81 1 := ⟨kc_81, kw_68, kl_81_1, Nat.le_of_ble_eq_true rfl, Nat.le_of_ble_eq_true rfl⟩
theorem kk_271_87 : js_lk 271 87 2 := ⟨kc_87, kw_68, kl_87_2, Nat.le_of_ble_eq_true rfl, Nat.le_of_ble_eq_true rfl⟩
theorem kk_272_88 : js_lk 272 88 1 := ⟨kc_88, kw_68, kl_88_1, Nat.le_of_ble_eq_true rfl, Nat.le_of_ble_eq_true rfl⟩
theorem kk_273_89 : js_lk 273 89 2 := ⟨kc_89, kw_68, kl_89_2, Nat.le_of_ble_eq_true rfl, Nat.le_of_ble_eq_true rfl⟩
theorem kk_274_90 : js_lk 274 90 4 := ⟨kc_90, kw_68, kl_90_4, Nat.le_of_ble_eq_true rfl, Nat.le_of_ble_eq_true rfl⟩
theorem kk_275_91 : js_lk 275 91 3 := ⟨kc_91, kw_68, kl_91_3, Nat.le_of_ble_eq_true rfl, Nat.le_of_ble_eq_true rfl⟩
theorem kk_276_92 : js_lk 276 92 2 := ⟨kc_92, kw_68, kl_92_2, Nat.le_of_ble_eq_true rfl, Nat.le_of_ble_eq_true rfl⟩
theorem kk_277_93 : js_lk 277 93 3 := ⟨kc_93, kw_68, kl_93_3, Nat.le_of_ble_eq_true rfl, Nat.le_of_ble_eq_true rfl⟩
theorem kk_278_96 : js_lk 278 96 1 := ⟨kc_96, kw_68, kl_96_1, Nat.le_of_ble_eq_true rfl, Nat.le_of_ble_eq_true rfl⟩
theorem kk_279_97 : js_lk 279 97 1 := ⟨kc_97, kw_68, kl_97_1, Nat.le_of_ble_eq_true rfl, Nat.le_of_ble_eq_true rfl⟩
theorem kk_280_98 : js_lk 280 98 0 := ⟨kc_98, kw_68, kl_98_0, Nat.le_of_ble_eq_true rfl, Nat.le_of_ble_eq_true rfl⟩
theorem kk_281_99 : js_lk 281 99 0 := ⟨kc_99, kw_68, kl_99_0, Nat.le_of_ble_eq_true rfl, Nat.le_of_ble_eq_true rfl⟩
theorem kk_282_100 : js_lk 282 100 0 := ⟨kc_100, kw_68, kl_100_0, Nat.le_of_ble_eq_true rfl, Nat.le_of_ble_eq_true rfl⟩
theorem kk_283_101 : js_lk 283 101 0 := ⟨kc_101, kw_68, kl_101_0, Nat.le_of_ble_eq_true rfl, Nat.le_of_ble_eq_true rfl⟩
theorem kk_284_103 : js_lk 284 103 1 := ⟨kc_103, kw_68, kl_103_1, Nat.le_of_ble_eq_true rfl, Nat.le_of_ble_eq_true rfl⟩
theorem kk_285_104 : js_lk 285 104 1 := ⟨kc_104, kw_68, kl_104_1, Nat.le_of_ble_eq_true rfl, Nat.le_of_ble_eq_true rfl⟩
theorem kk_286_105 : js_lk 286 105 1 := ⟨kc_105, kw_68, kl_105_1, Nat.le_of_ble_eq_true rfl, Nat.le_of_ble_eq_true rfl⟩
theorem kk_287_106 : js_lk 287 106 1 := ⟨kc_106, kw_68, kl_106_1, Nat.le_of_ble_eq_true rfl, Nat.le_of_ble_eq_true rfl⟩
theorem kk_288_107 : js_lk 288 107 0 := ⟨kc_107, kw_68, kl_107_0, Nat.le_of_ble_eq_true rfl, Nat.le_of_ble_eq_true rfl⟩
theorem kk_289_108 : js_lk 289 108 0 := ⟨kc_108, kw_68, kl_108_0, Nat.le_of_ble_eq_true rfl, Nat.le_of_ble_eq_true rfl⟩
theorem kk_290_109 : js_lk 290 109 0 := ⟨kc_109, kw_68, kl_109_0, Nat.le_of_ble_eq_true rfl, Nat.le_of_ble_eq_true rfl⟩
theorem kk_291_110 : js_lk 291 110 0 := ⟨kc_110, kw_68, kl_110_0, Nat.le_of_ble_eq_true rfl, Nat.le_of_ble_eq_true rfl⟩
theorem kk_292_113 : js_lk 292 113 0 := ⟨kc_113, kw_68, kl_113_0, Nat.le_of_ble_eq_true rfl, Nat.le_of_ble_eq_true rfl⟩
theorem kk_293_59 : js_lk 293 59 0 := ⟨kc_59, kw_68, kl_59_0, Nat.le_of_ble_eq_true rfl, Nat.le_of_ble_eq_true rfl⟩
theorem kk_293_62 : js_lk 293 62 0 := ⟨kc_62, kw_68, kl_62_0, Nat.le_of_ble_eq_true rfl, Nat.le_of_ble_eq_true rfl⟩
theorem kk_293_63 : js_lk 293 63 0 := ⟨kc_63, kw_68, kl_63_0, Nat.le_of_ble_eq_true rfl, Nat.le_of_ble_eq_true rfl⟩
theorem kk_293_65 : js_lk 293 65 1 := ⟨kc_65, kw_68, kl_65_1, Nat.le_of_ble_eq_true rfl, Nat.le_of_ble_eq_true rfl⟩
theorem kk_293_71 : js_lk 293 71 0 := ⟨kc_71, kw_68, kl_71_0, Nat.le_of_ble_eq_true rfl, Nat.le_of_ble_eq_true rfl⟩
theorem kk_293_77 : js_lk 293 77 0 := ⟨kc_77, kw_68, kl_77_0, Nat.le_of_ble_eq_true rfl, Nat.le_of_ble_eq_true rfl⟩
theorem kk_293_80 : js_lk 293 80 0 := ⟨kc_80, kw_68, kl_80_0, Nat.le_of_ble_eq_true rfl, Nat.le_of_ble_eq_true rfl⟩
theorem kk_293_82 : js_lk 293 82 0 := ⟨kc_82, kw_68, kl_82_0, Nat.le_of_ble_eq_true rfl, Nat.le_of_ble_eq_true rfl⟩
theorem kk_293_83 : js_lk 293 83 0 := ⟨kc_83, kw_68, kl_83_0, Nat.le_of_ble_eq_true rfl, Nat.le_of_ble_eq_true rfl⟩
theorem kk_293_84 : js_lk 293 84 0 := ⟨kc_84, kw_68, kl_84_0, Nat.le_of_ble_eq_true rfl, Nat.le_of_ble_eq_true rfl⟩
theorem kk_293_85 : js_lk 293 85 0 := ⟨kc_85, kw_68, kl_85_0, Nat.le_of_ble_eq_true rfl, Nat.le_of_ble_eq_true rfl⟩
theorem kk_293_86 : js_lk 293 86 0 := ⟨kc_86, kw_68, kl_86_0, Nat.le_of_ble_eq_true rfl, Nat.le_of_ble_eq_true rfl⟩
theorem kk_293_94 : js_lk 293 94 0 := ⟨kc_94, kw_68, kl_94_0, Nat.le_of_ble_eq_true rfl, Nat.le_of_ble_eq_true rfl⟩
theorem kk_293_95 : js_lk 293 95 0 := ⟨kc_95, kw_68, kl_95_0, Nat.le_of_ble_eq_true rfl, Nat.le_of_ble_eq_true rfl⟩
theorem kk_293_102 : js_lk 293 102 0 := ⟨kc_102, kw_68, kl_102_0, Nat.le_of_ble_eq_true rfl, Nat.le_of_ble_eq_true rfl⟩
theorem kk_293_111 : js_lk 293 111 0 := ⟨kc_111, kw_68, kl_111_0, Nat.le_of_ble_eq_true rfl, Nat.le_of_ble_eq_true rfl⟩
theorem kk_293_112 : js_lk 293 112 0 := ⟨kc_112, kw_68, kl_112_0, Nat.le_of_ble_eq_true rfl, Nat.le_of_ble_eq_true rfl⟩
theorem kk_293_133 : js_lk 293 133 0 := ⟨kc_133, kw_78, kl_133_0, Nat.le_of_ble_eq_true rfl, Nat.le_of_ble_eq_true rfl⟩
theorem kk_293_134 : js_lk 293 134 0 := ⟨kc_134, kw_78, kl_134_0, Nat.le_of_ble_eq_true rfl, Nat.le_of_ble_eq_true rfl⟩
theorem kk_293_161 : js_lk 293 161 5 := ⟨kc_161, kw_78, kl_161_5, Nat.le_of_ble_eq_true rfl, Nat.le_of_ble_eq_true rfl⟩
theorem kk_293_163 : js_lk 293 163 1 := ⟨kc_163, kw_78, kl_163_1, Nat.le_of_ble_eq_true rfl, Nat.le_of_ble_eq_true rfl⟩
theorem kk_293_164 : js_lk 293 164 0 := ⟨kc_164, kw_78, kl_164_0, Nat.le_of_ble_eq_true rfl, Nat.le_of_ble_eq_true rfl⟩
theorem kk_293_165 : js_lk 293 165 0 := ⟨kc_165, kw_78, kl_165_0, Nat.le_of_ble_eq_true rfl, Nat.le_of_ble_eq_true rfl⟩
theorem kk_293_166 : js_lk 293 166 1 := ⟨kc_166, kw_78, kl_166_1, Nat.le_of_ble_eq_true rfl, Nat.le_of_ble_eq_true rfl⟩
theorem kk_293_167 : js_lk 293 167 1 := ⟨kc_167, kw_78, kl_167_1, Nat.le_of_ble_eq_true rfl, Nat.le_of_ble_eq_true rfl⟩
theorem kk_293_168 : js_lk 293 168 1 := ⟨kc_168, kw_78, kl_168_1, Nat.le_of_ble_eq_true rfl, Nat.le_of_ble_eq_true rfl⟩
theorem kk_293_169 : js_lk 293 169 1 := ⟨kc_169, kw_78, kl_169_1, Nat.le_of_ble_eq_true rfl, Nat.le_of_ble_eq_true rfl⟩
theorem kk_293_170 : js_lk 293 170 2 := ⟨kc_170, kw_78, kl_170_2, Nat.le_of_ble_eq_true rfl, Nat.le_of_ble_eq_true rfl⟩
theorem kk_293_171 : js_lk 293 171 1 := ⟨kc_171, kw_78, kl_171_1, Nat.le_of_ble_eq_true rfl, Nat.le_of_ble_eq_true rfl⟩
theorem kk_293_172 : js_lk 293 172 1 := ⟨kc_172, kw_78, kl_172_1, Nat.le_of_ble_eq_true rfl, Nat.le_of_ble_eq_true rfl⟩
theorem kk_293_173 : js_lk 293 173 0 := ⟨kc_173, kw_78, kl_173_0, Nat.le_of_ble_eq_true rfl, Nat.le_of_ble_eq_true rfl⟩
theorem kk_293_176 : js_lk 293 176 3 := ⟨kc_176, kw_78, kl_176_3, Nat.le_of_ble_eq_true rfl, Nat.le_of_ble_eq_true rfl⟩
theorem kk_293_178 : js_lk 293 178 1 := ⟨kc_178, kw_78, kl_178_1, Nat.le_of_ble_eq_true rfl, Nat.le_of_ble_eq_true rfl⟩
theorem kk_293_180 : js_lk 293 180 2 := ⟨kc_180, kw_78, kl_180_2, Nat.le_of_ble_eq_true rfl, Nat.le_of_ble_eq_true rfl⟩
theorem kk_293_182 : js_lk 293 182 2 := ⟨kc_182, kw_78, kl_182_2, Nat.le_of_ble_eq_true rfl, Nat.le_of_ble_eq_true rfl⟩
theorem kk_293_191 : js_lk 293 191 2 := ⟨kc_191, kw_78, kl_191_2, Nat.le_of_ble_eq_true rfl, Nat.le_of_ble_eq_true rfl⟩
theorem kk_293_194 : js_lk 293 194 0 := ⟨kc_194, kw_78, kl_194_0, Nat.le_of_ble_eq_true rfl, Nat.le_of_ble_eq_true rfl⟩
theorem kk_293_195 : js_lk 293 195 4 := ⟨kc_195, kw_78, kl_195_4, Nat.le_of_ble_eq_true rfl, Nat.le_of_ble_eq_true rfl⟩
theorem kk_293_196 : js_lk 293 196 3 := ⟨kc_196, kw_78, kl_196_3, Nat.le_of_ble_eq_true rfl, Nat.le_of_ble_eq_true rfl⟩
theorem kk_293_197 : js_lk 293 197 2 := ⟨kc_197, kw_78, kl_197_2, Nat.le_of_ble_eq_true rfl, Nat.le_of_ble_eq_true rfl⟩
theorem kk_293_198 : js_lk 293 198 3 := ⟨kc_198, kw_78, kl_198_3, Nat.le_of_ble_eq_true rfl, Nat.le_of_ble_eq_true rfl⟩
theorem kk_293_199 : js_lk 293 199 2 := ⟨kc_199, kw_78, kl_199_2, Nat.le_of_ble_eq_true rfl, Nat.le_of_ble_eq_true rfl⟩
theorem kk_293_200 : js_lk 293 200 2 := ⟨kc_200, kw_78, kl_200_2, Nat.le_of_ble_eq_true rfl, Nat.le_of_ble_eq_true rfl⟩
theorem kk_293_201 : js_lk 293 201 0 := ⟨kc_201, kw_78, kl_201_0, Nat.le_of_ble_eq_true rfl, Nat.le_of_ble_eq_true rfl⟩
theorem kk_293_202 : js_lk 293 202 1 := ⟨kc_202, kw_78, kl_202_1, Nat.le_of_ble_eq_true rfl, Nat.le_of_ble_eq_true rfl⟩
theorem kk_293_203 : js_lk 293 203 0 := ⟨kc_203, kw_78, kl_203_0, Nat.le_of_ble_eq_true rfl, Nat.le_of_ble_eq_true rfl⟩
theorem kk_293_204 : js_lk 293 204 0 := ⟨kc_204, kw_78, kl_204_0, Nat.le_of_ble_eq_true rfl, Nat.le_of_ble_eq_true rfl⟩
theorem kk_293_205 : js_lk 293 205 0 := ⟨kc_205, kw_78, kl_205_0, Nat.le_of_ble_eq_true rfl, Nat.le_of_ble_eq_true rfl⟩
theorem kk_293_206 : js_lk 293 206 0 := ⟨kc_206, kw_78, kl_206_0, Nat.le_of_ble_eq_true rfl, Nat.le_of_ble_eq_true rfl⟩
theorem kk_293_207 : js_lk 293 207 0 := ⟨kc_207, kw_78, kl_207_0, Nat.le_of_ble_eq_true rfl, Nat.le_of_ble_eq_true rfl⟩
theorem kk_293_208 : js_lk 293 208 2 := ⟨kc_208, kw_78, kl_208_2, Nat.le_of_ble_eq_true rfl, Nat.le_of_ble_eq_true rfl⟩
theorem kk_293_209 : js_lk 293 209 1 := ⟨kc_209, kw_78, kl_209_1, Nat.le_of_ble_eq_true rfl, Nat.le_of_ble_eq_true rfl⟩
theorem kk_293_210 : js_lk 293 210 2 := ⟨kc_210, kw_78, kl_210_2, Nat.le_of_ble_eq_true rfl, Nat.le_of_ble_eq_true rfl⟩
theorem kk_293_213 : js_lk 293 213 0 := ⟨kc_213, kw_78, kl_213_0, Nat.le_of_ble_eq_true rfl, Nat.le_of_ble_eq_true rfl⟩
theorem kk_293_214 : js_lk 293 214 0 := ⟨kc_214, kw_78, kl_214_0, Nat.le_of_ble_eq_true rfl, Nat.le_of_ble_eq_true rfl⟩
theorem kk_293_215 : js_lk 293 215 1 := ⟨kc_215, kw_78, kl_215_1, Nat.le_of_ble_eq_true rfl, Nat.le_of_ble_eq_true rfl⟩
theorem kk_293_216 : js_lk 293 216 1 := ⟨kc_216, kw_78, kl_216_1, Nat.le_of_ble_eq_true rfl, Nat.le_of_ble_eq_true rfl⟩
theorem kk_293_217 : js_lk 293 217 0 := ⟨kc_217, kw_78, kl_217_0, Nat.le_of_ble_eq_true rfl, Nat.le_of_ble_eq_true rfl⟩
theorem kk_293_218 : js_lk 293 218 0 := ⟨kc_218, kw_78, kl_218_0, Nat.le_of_ble_eq_true rfl, Nat.le_of_ble_eq_true rfl⟩
theorem kk_293_219 : js_lk 293 219 0 := ⟨kc_219, kw_78, kl_219_0, Nat.le_of_ble_eq_true rfl, Nat.le_of_ble_eq_true rfl⟩
theorem kk_293_220 : js_lk 293 220 0 := ⟨kc_220, kw_78, kl_220_0, Nat.le_of_ble_eq_true rfl, Nat.le_of_ble_eq_true rfl⟩
theorem kk_293_221 : js_lk 293 221 0 := ⟨kc_221, kw_78, kl_221_0, Nat.le_of_ble_eq_true rfl, Nat.le_of_ble_eq_true rfl⟩
theorem kk_293_223 : js_lk 293 223 1 := ⟨kc_223, kw_78, kl_223_1, Nat.le_of_ble_eq_true rfl, Nat.le_of_ble_eq_true rfl⟩
theorem kk_293_224 : js_lk 293 224 1 := ⟨kc_224, kw_78, kl_224_1, Nat.le_of_ble_eq_true rfl, Nat.le_of_ble_eq_true rfl⟩
theorem kk_293_225 : js_lk 293 225 1 := ⟨kc_225, kw_78, kl_225_1, Nat.le_of_ble_eq_true rfl, Nat.le_of_ble_eq_true rfl⟩
theorem kk_293_226 : js_lk 293 226 1 := ⟨kc_226, kw_78, kl_226_1, Nat.le_of_ble_eq_true rfl, Nat.le_of_ble_eq_true rfl⟩
theorem kk_293_234 : js_lk 293 234 0 := ⟨kc_234, kw_78, kl_234_0, Nat.le_of_ble_eq_true rfl, Nat.le_of_ble_eq_true rfl⟩
theorem kk_293_235 : js_lk 293 235 0 := ⟨kc_235, kw_78, kl_235_0, Nat.le_of_ble_eq_true rfl, Nat.le_of_ble_eq_true rfl⟩
theorem kk_293_236 : js_lk 293 236 0 := ⟨kc_236, kw_78, kl_236_0, Nat.le_of_ble_eq_true rfl, Nat.le_of_ble_eq_true rfl⟩
theorem kk_293_237 : js_lk 293 237 0 := ⟨kc_237, kw_78, kl_237_0, Nat.le_of_ble_eq_true rfl, Nat.le_of_ble_eq_true rfl⟩
theorem kk_293_238 : js_lk 293 238 0 := ⟨kc_238, kw_78, kl_238_0, Nat.le_of_ble_eq_true rfl, Nat.le_of_ble_eq_true rfl⟩
theorem kk_293_239 : js_lk 293 239 0 := ⟨kc_239, kw_78, kl_239_0, Nat.le_of_ble_eq_true rfl, Nat.le_of_ble_eq_true rfl⟩
theorem kk_293_240 : js_lk 293 240 0 := ⟨kc_240, kw_78, kl_240_0, Nat.le_of_ble_eq_true rfl, Nat.le_of_ble_eq_true rfl⟩
theorem kw_67 : (Jvm.Cond.initialized "MosaicCatalogueLaw") ∈ js_ws := js_ws_of 67 (by decide +kernel) (by decide +kernel)
theorem kcw_255 : js_codeW 255 ∈ js_ws := js_ws_of 672 (by decide +kernel) (by decide +kernel)
theorem kB_255 : js_lkB 255 7 := ⟨kcw_255, kw_67, (by decide +kernel), Nat.le_of_ble_eq_true rfl, Nat.le_of_ble_eq_true rfl⟩
theorem kcw_256 : js_codeW 256 ∈ js_ws := js_ws_of 691 (by decide +kernel) (by decide +kernel)
theorem kB_256 : js_lkB 256 3 := ⟨kcw_256, kw_67, (by decide +kernel), Nat.le_of_ble_eq_true rfl, Nat.le_of_ble_eq_true rfl⟩
theorem kcw_257 : js_codeW 257 ∈ js_ws := js_ws_of 703 (by decide +kernel) (by decide +kernel)
theorem kB_257 : js_lkB 257 3 := ⟨kcw_257, kw_67, (by decide +kernel), Nat.le_of_ble_eq_true rfl, Nat.le_of_ble_eq_true rfl⟩
theorem kcw_258 : js_codeW 258 ∈ js_ws := js_ws_of 736 (by decide +kernel) (by decide +kernel)
theorem kB_258 : js_lkB 258 3 := ⟨kcw_258, kw_67, (by decide +kernel), Nat.le_of_ble_eq_true rfl, Nat.le_of_ble_eq_true rfl⟩
theorem kcw_259 : js_codeW 259 ∈ js_ws := js_ws_of 747 (by decide +kernel) (by decide +kernel)
theorem kB_259 : js_lkB 259 3 := ⟨kcw_259, kw_67, (by decide +kernel), Nat.le_of_ble_eq_true rfl, Nat.le_of_ble_eq_true rfl⟩
theorem kcw_260 : js_codeW 260 ∈ js_ws := js_ws_of 754 (by decide +kernel) (by decide +kernel)
theorem kB_260 : js_lkB 260 4 := ⟨kcw_260, kw_67, (by decide +kernel), Nat.le_of_ble_eq_true rfl, Nat.le_of_ble_eq_true rfl⟩
theorem kcw_261 : js_codeW 261 ∈ js_ws := js_ws_of 766 (by decide +kernel) (by decide +kernel)
theorem kB_261 : js_lkB 261 3 := ⟨kcw_261, kw_67, (by decide +kernel), Nat.le_of_ble_eq_true rfl, Nat.le_of_ble_eq_true rfl⟩
theorem kcw_262 : js_codeW 262 ∈ js_ws := js_ws_of 774 (by decide +kernel) (by decide +kernel)
theorem kB_262 : js_lkB 262 3 := ⟨kcw_262, kw_67, (by decide +kernel), Nat.le_of_ble_eq_true rfl, Nat.le_of_ble_eq_true rfl⟩
theorem kcw_263 : js_codeW 263 ∈ js_ws := js_ws_of 786 (by decide +kernel) (by decide +kernel)
theorem kB_263 : js_lkB 263 5 := ⟨kcw_263, kw_67, (by decide +kernel), Nat.le_of_ble_eq_true rfl, Nat.le_of_ble_eq_true rfl⟩
theorem kcw_264 : js_codeW 264 ∈ js_ws := js_ws_of 803 (by decide +kernel) (by decide +kernel)
theorem kB_264 : js_lkB 264 3 := ⟨kcw_264, kw_67, (by decide +kernel), Nat.le_of_ble_eq_true rfl, Nat.le_of_ble_eq_true rfl⟩
theorem kcw_265 : js_codeW 265 ∈ js_ws := js_ws_of 814 (by decide +kernel) (by decide +kernel)
theorem kB_265 : js_lkB 265 4 := ⟨kcw_265, kw_67, (by decide +kernel), Nat.le_of_ble_eq_true rfl, Nat.le_of_ble_eq_true rfl⟩
theorem kcw_266 : js_codeW 266 ∈ js_ws := js_ws_of 825 (by decide +kernel) (by decide +kernel)
theorem kB_266 : js_lkB 266 4 := ⟨kcw_266, kw_67, (by decide +kernel), Nat.le_of_ble_eq_true rfl, Nat.le_of_ble_eq_true rfl⟩
theorem kcw_267 : js_codeW 267 ∈ js_ws := js_ws_of 837 (by decide +kernel) (by decide +kernel)
theorem kB_267 : js_lkB 267 4 := ⟨kcw_267, kw_67, (by decide +kernel), Nat.le_of_ble_eq_true rfl, Nat.le_of_ble_eq_true rfl⟩
theorem kcw_268 : js_codeW 268 ∈ js_ws := js_ws_of 880 (by decide +kernel) (by decide +kernel)
theorem kB_268 : js_lkB 268 4 := ⟨kcw_268, kw_67, (by decide +kernel), Nat.le_of_ble_eq_true rfl, Nat.le_of_ble_eq_true rfl⟩
theorem kcw_269 : js_codeW 269 ∈ js_ws := js_ws_of 887 (by decide +kernel) (by decide +kernel)
theorem kB_269 : js_lkB 269 4 := ⟨kcw_269, kw_67, (by decide +kernel), Nat.le_of_ble_eq_true rfl, Nat.le_of_ble_eq_true rfl⟩
theorem kcw_270 : js_codeW 270 ∈ js_ws := js_ws_of 895 (by decide +kernel) (by decide +kernel)
theorem kB_270 : js_lkB 270 3 := ⟨kcw_270, kw_67, (by decide +kernel), Nat.le_of_ble_eq_true rfl, Nat.le_of_ble_eq_true rfl⟩
theorem kcw_271 : js_codeW 271 ∈ js_ws := js_ws_of 904 (by decide +kernel) (by decide +kernel)
theorem kB_271 : js_lkB 271 4 := ⟨kcw_271, kw_67, (by decide +kernel), Nat.le_of_ble_eq_true rfl, Nat.le_of_ble_eq_true rfl⟩
theorem kcw_272 : js_codeW 272 ∈ js_ws := js_ws_of 912 (by decide +kernel) (by decide +kernel)
theorem kB_272 : js_lkB 272 3 := ⟨kcw_272, kw_67, (by decide +kernel), Nat.le_of_ble_eq_true rfl, Nat.le_of_ble_eq_true rfl⟩
theorem kcw_273 : js_codeW 273 ∈ js_ws := js_ws_of 920 (by decide +kernel) (by decide +kernel)
theorem kB_273 : js_lkB 273 4 := ⟨kcw_273, kw_67, (by decide +kernel), Nat.le_of_ble_eq_true rfl, Nat.le_of_ble_eq_true rfl⟩
theorem kcw_274 : js_codeW 274 ∈ js_ws := js_ws_of 928 (by decide +kernel) (by decide +kernel)
theorem kB_274 : js_lkB 274 6 := ⟨kcw_274, kw_67, (by decide +kernel), Nat.le_of_ble_eq_true rfl, Nat.le_of_ble_eq_true rfl⟩
theorem kcw_275 : js_codeW 275 ∈ js_ws := js_ws_of 941 (by decide +kernel) (by decide +kernel)
theorem kB_275 : js_lkB 275 5 := ⟨kcw_275, kw_67, (by decide +kernel), Nat.le_of_ble_eq_true rfl, Nat.le_of_ble_eq_true rfl⟩
theorem kcw_276 : js_codeW 276 ∈ js_ws := js_ws_of 949 (by decide +kernel) (by decide +kernel)
theorem kB_276 : js_lkB 276 4 := ⟨kcw_276, kw_67, (by decide +kernel), Nat.le_of_ble_eq_true rfl, Nat.le_of_ble_eq_true rfl⟩
theorem kcw_277 : js_codeW 277 ∈ js_ws := js_ws_of 956 (by decide +kernel) (by decide +kernel)
theorem kB_277 : js_lkB 277 5 := ⟨kcw_277, kw_67, (by decide +kernel), Nat.le_of_ble_eq_true rfl, Nat.le_of_ble_eq_true rfl⟩
theorem kcw_278 : js_codeW 278 ∈ js_ws := js_ws_of 963 (by decide +kernel) (by decide +kernel)
theorem kB_278 : js_lkB 278 3 := ⟨kcw_278, kw_67, (by decide +kernel), Nat.le_of_ble_eq_true rfl, Nat.le_of_ble_eq_true rfl⟩
theorem kcw_279 : js_codeW 279 ∈ js_ws := js_ws_of 975 (by decide +kernel) (by decide +kernel)
theorem kB_279 : js_lkB 279 3 := ⟨kcw_279, kw_67, (by decide +kernel), Nat.le_of_ble_eq_true rfl, Nat.le_of_ble_eq_true rfl⟩
theorem kcw_280 : js_codeW 280 ∈ js_ws := js_ws_of 979 (by decide +kernel) (by decide +kernel)
theorem kB_280 : js_lkB 280 2 := ⟨kcw_280, kw_67, (by decide +kernel), Nat.le_of_ble_eq_true rfl, Nat.le_of_ble_eq_true rfl⟩
theorem kcw_281 : js_codeW 281 ∈ js_ws := js_ws_of 993 (by decide +kernel) (by decide +kernel)
theorem kB_281 : js_lkB 281 2 := ⟨kcw_281, kw_67, (by decide +kernel), Nat.le_of_ble_eq_true rfl, Nat.le_of_ble_eq_true rfl⟩
theorem kcw_282 : js_codeW 282 ∈ js_ws := js_ws_of 1017 (by decide +kernel) (by decide +kernel)
theorem kB_282 : js_lkB 282 2 := ⟨kcw_282, kw_67, (by decide +kernel), Nat.le_of_ble_eq_true rfl, Nat.le_of_ble_eq_true rfl⟩
theorem kcw_283 : js_codeW 283 ∈ js_ws := js_ws_of 1029 (by decide +kernel) (by decide +kernel)
theorem kB_283 : js_lkB 283 2 := ⟨kcw_283, kw_67, (by decide +kernel), Nat.le_of_ble_eq_true rfl, Nat.le_of_ble_eq_true rfl⟩
theorem kcw_284 : js_codeW 284 ∈ js_ws := js_ws_of 1036 (by decide +kernel) (by decide +kernel)
theorem kB_284 : js_lkB 284 3 := ⟨kcw_284, kw_67, (by decide +kernel), Nat.le_of_ble_eq_true rfl, Nat.le_of_ble_eq_true rfl⟩
theorem kcw_285 : js_codeW 285 ∈ js_ws := js_ws_of 1047 (by decide +kernel) (by decide +kernel)
theorem kB_285 : js_lkB 285 3 := ⟨kcw_285, kw_67, (by decide +kernel), Nat.le_of_ble_eq_true rfl, Nat.le_of_ble_eq_true rfl⟩
theorem kcw_286 : js_codeW 286 ∈ js_ws := js_ws_of 1057 (by decide +kernel) (by decide +kernel)
theorem kB_286 : js_lkB 286 3 := ⟨kcw_286, kw_67, (by decide +kernel), Nat.le_of_ble_eq_true rfl, Nat.le_of_ble_eq_true rfl⟩
theorem kcw_287 : js_codeW 287 ∈ js_ws := js_ws_of 1065 (by decide +kernel) (by decide +kernel)
theorem kB_287 : js_lkB 287 3 := ⟨kcw_287, kw_67, (by decide +kernel), Nat.le_of_ble_eq_true rfl, Nat.le_of_ble_eq_true rfl⟩
theorem kcw_288 : js_codeW 288 ∈ js_ws := js_ws_of 1081 (by decide +kernel) (by decide +kernel)
theorem kB_288 : js_lkB 288 2 := ⟨kcw_288, kw_67, (by decide +kernel), Nat.le_of_ble_eq_true rfl, Nat.le_of_ble_eq_true rfl⟩
theorem kcw_289 : js_codeW 289 ∈ js_ws := js_ws_of 1189 (by decide +kernel) (by decide +kernel)
theorem kB_289 : js_lkB 289 2 := ⟨kcw_289, kw_67, (by decide +kernel), Nat.le_of_ble_eq_true rfl, Nat.le_of_ble_eq_true rfl⟩
theorem kcw_290 : js_codeW 290 ∈ js_ws := js_ws_of 1197 (by decide +kernel) (by decide +kernel)
theorem kB_290 : js_lkB 290 2 := ⟨kcw_290, kw_67, (by decide +kernel), Nat.le_of_ble_eq_true rfl, Nat.le_of_ble_eq_true rfl⟩
theorem kcw_291 : js_codeW 291 ∈ js_ws := js_ws_of 1205 (by decide +kernel) (by decide +kernel)
theorem kB_291 : js_lkB 291 2 := ⟨kcw_291, kw_67, (by decide +kernel), Nat.le_of_ble_eq_true rfl, Nat.le_of_ble_eq_true rfl⟩
theorem kcw_292 : js_codeW 292 ∈ js_ws := js_ws_of 1217 (by decide +kernel) (by decide +kernel)
theorem kB_292 : js_lkB 292 2 := ⟨kcw_292, kw_67, (by decide +kernel), Nat.le_of_ble_eq_true rfl, Nat.le_of_ble_eq_true rfl⟩
set_option maxRecDepth 20000 in
theorem d_255_0 : decode (js_b 255) 0 = .ok (.aload 6, 2) := by decide +kernel
set_option maxRecDepth 20000 in
theorem d_255_2 : decode (js_b 255) 2 = .ok (.iconst 0, 1) := by decide +kernel
set_option maxRecDepth 20000 in
theorem d_255_3 : decode (js_b 255) 3 = .ok (.aload_n 0, 1) := by decide +kernel
set_option maxRecDepth 20000 in
theorem d_255_4 : decode (js_b 255) 4 = .ok (.iload_n 1, 1) := by decide +kernel
set_option maxRecDepth 20000 in
theorem d_255_5 : decode (js_b 255) 5 = .ok (.iload_n 2, 1) := by decide +kernel
set_option maxRecDepth 20000 in
theorem d_255_6 : decode (js_b 255) 6 = .ok (.iload_n 3, 1) := by decide +kernel
set_option maxRecDepth 20000 in
theorem d_255_7 : decode (js_b 255) 7 = .ok (.iload 4, 2) := by decide +kernel
set_option maxRecDepth 20000 in
theorem d_255_9 : decode (js_b 255) 9 = .ok (.iload 5, 2) := by decide +kernel
set_option maxRecDepth 20000 in
theorem d_255_11 : decode (js_b 255) 11 = .ok (.invokevirtual 7, 3) := by decide +kernel
set_option maxRecDepth 20000 in
theorem d_255_14 : decode (js_b 255) 14 = .ok (.i2l, 1) := by decide +kernel
set_option maxRecDepth 20000 in
theorem d_255_15 : decode (js_b 255) 15 = .ok (.lastore, 1) := by decide +kernel
set_option maxRecDepth 20000 in
theorem d_255_16 : decode (js_b 255) 16 = .ok (.goto 11, 3) := by decide +kernel
set_option maxRecDepth 20000 in
theorem d_255_19 : decode (js_b 255) 19 = .ok (.astore 7, 2) := by decide +kernel
set_option maxRecDepth 20000 in
theorem d_255_21 : decode (js_b 255) 21 = .ok (.iconst 1, 1) := by decide +kernel
set_option maxRecDepth 20000 in
theorem d_255_22 : decode (js_b 255) 22 = .ok (.ireturn, 1) := by decide +kernel
set_option maxRecDepth 20000 in
theorem d_255_23 : decode (js_b 255) 23 = .ok (.astore 7, 2) := by decide +kernel
set_option maxRecDepth 20000 in
theorem d_255_25 : decode (js_b 255) 25 = .ok (.iconst 2, 1) := by decide +kernel
set_option maxRecDepth 20000 in
theorem d_255_26 : decode (js_b 255) 26 = .ok (.ireturn, 1) := by decide +kernel
set_option maxRecDepth 20000 in
theorem d_255_27 : decode (js_b 255) 27 = .ok (.iconst 0, 1) := by decide +kernel
set_option maxRecDepth 20000 in
theorem d_255_28 : decode (js_b 255) 28 = .ok (.ireturn, 1) := by decide +kernel
theorem ki_255_15 : js_OkG 255 15 (o_sL 102 16) := js_St.okG (st_sL d_255_15) (fun _ _ _ _ _ => rfl)
theorem ki_255_14 : js_OkG 255 14 (o_i2l 15) := js_St.okG (st_i2l d_255_14) (fun _ _ _ _ _ => rfl)
theorem ki_255_11 : js_OkG 255 11 (o_hI 60 6 8 [("java/lang/IllegalArgumentException", 19), ("java/lang/IllegalStateException", 23)] 14) := og_hI (site_V kk_255_60 (by decide) kw_675 kw_676 kw_677 (fun t ht => by cases ht; exact Or.inl ⟨_, rfl, rfl⟩) d_255_11) rfl rfl ⟨⟨by decide +kernel, by decide, rfl, rfl⟩, kw_673, kn_535, by decide +kernel, ⟨⟨by decide +kernel, by decide, rfl, rfl⟩, kw_674, kn_551, by decide +kernel, trivial⟩⟩
theorem ki_255_9 : js_OkG 255 9 (o_il 5 11) := js_St.okG (st_iload d_255_9) (fun _ _ _ _ _ => rfl)
theorem ki_255_7 : js_OkG 255 7 (o_il 4 9) := js_St.okG (st_iload d_255_7) (fun _ _ _ _ _ => rfl)
theorem ki_255_6 : js_OkG 255 6 (o_il 3 7) := js_St.okG (st_iloadn rfl d_255_6) (fun _ _ _ _ _ => rfl)
theorem ki_255_5 : js_OkG 255 5 (o_il 2 6) := js_St.okG (st_iloadn rfl d_255_5) (fun _ _ _ _ _ => rfl)
theorem ki_255_4 : js_OkG 255 4 (o_il 1 5) := js_St.okG (st_iloadn rfl d_255_4) (fun _ _ _ _ _ => rfl)
theorem ki_255_3 : js_OkG 255 3 (o_al 0 4) := js_St.okG (st_aloadn rfl d_255_3) (fun _ _ _ _ _ => rfl)
theorem ki_255_2 : js_OkG 255 2 (o_ic 0 3) := js_St.okG (st_iconst rfl d_255_2) (fun _ _ _ _ _ => rfl)
theorem ki_255_0 : js_OkG 255 0 (o_al 6 2) := js_St.okG (st_aload d_255_0) (fun _ _ _ _ _ => rfl)
theorem ki_255_28 : js_OkG 255 28 (o_rI) := og_rI d_255_28
theorem ki_255_27 : js_OkG 255 27 (o_ic 0 28) := js_St.okG (st_iconst rfl d_255_27) (fun _ _ _ _ _ => rfl)
theorem ki_255_26 : js_OkG 255 26 (o_rI) := og_rI d_255_26
theorem ki_255_25 : js_OkG 255 25 (o_ic 2 26) := js_St.okG (st_iconst rfl d_255_25) (fun _ _ _ _ _ => rfl)
theorem ki_255_23 : js_OkG 255 23 (o_aj 7 25) := og_aj2 rfl rfl (Nat.le_of_ble_eq_true rfl) d_255_23
theorem ki_255_22 : js_OkG 255 22 (o_rI) := og_rI d_255_22
theorem ki_255_21 : js_OkG 255 21 (o_ic 1 22) := js_St.okG (st_iconst rfl d_255_21) (fun _ _ _ _ _ => rfl)
theorem ki_255_19 : js_OkG 255 19 (o_aj 7 21) := og_aj2 rfl rfl (Nat.le_of_ble_eq_true rfl) d_255_19
theorem ki_255_16 : js_OkG 255 16 (o_go 27) := js_St.okG (st_goto (by decide) d_255_16) (fun _ _ _ _ _ => rfl)
set_option maxRecDepth 20000 in
theorem d_256_0 : decode (js_b 256) 0 = .ok (.aload_n 2, 1) := by decide +kernel
set_option maxRecDepth 20000 in
theorem d_256_1 : decode (js_b 256) 1 = .ok (.iconst 0, 1) := by decide +kernel
set_option maxRecDepth 20000 in
theorem d_256_2 : decode (js_b 256) 2 = .ok (.aload_n 0, 1) := by decide +kernel
set_option maxRecDepth 20000 in
theorem d_256_3 : decode (js_b 256) 3 = .ok (.iload_n 1, 1) := by decide +kernel
set_option maxRecDepth 20000 in
theorem d_256_4 : decode (js_b 256) 4 = .ok (.invokevirtual 17, 3) := by decide +kernel
set_option maxRecDepth 20000 in
theorem d_256_7 : decode (js_b 256) 7 = .ok (.i2l, 1) := by decide +kernel
set_option maxRecDepth 20000 in
theorem d_256_8 : decode (js_b 256) 8 = .ok (.lastore, 1) := by decide +kernel
set_option maxRecDepth 20000 in
theorem d_256_9 : decode (js_b 256) 9 = .ok (.goto 9, 3) := by decide +kernel
set_option maxRecDepth 20000 in
theorem d_256_12 : decode (js_b 256) 12 = .ok (.astore_n 3, 1) := by decide +kernel
set_option maxRecDepth 20000 in
theorem d_256_13 : decode (js_b 256) 13 = .ok (.iconst 1, 1) := by decide +kernel
set_option maxRecDepth 20000 in
theorem d_256_14 : decode (js_b 256) 14 = .ok (.ireturn, 1) := by decide +kernel
set_option maxRecDepth 20000 in
theorem d_256_15 : decode (js_b 256) 15 = .ok (.astore_n 3, 1) := by decide +kernel
set_option maxRecDepth 20000 in
theorem d_256_16 : decode (js_b 256) 16 = .ok (.iconst 2, 1) := by decide +kernel
set_option maxRecDepth 20000 in
theorem d_256_17 : decode (js_b 256) 17 = .ok (.ireturn, 1) := by decide +kernel
set_option maxRecDepth 20000 in
theorem d_256_18 : decode (js_b 256) 18 = .ok (.iconst 0, 1) := by decide +kernel
set_option maxRecDepth 20000 in
theorem d_256_19 : decode (js_b 256) 19 = .ok (.ireturn, 1) := by decide +kernel
theorem ki_256_15 : js_OkG 256 15 (o_aj 3 16) := og_aj1 rfl rfl rfl (Nat.le_of_ble_eq_true rfl) d_256_15
theorem ki_256_14 : js_OkG 256 14 (o_rI) := og_rI d_256_14
theorem ki_256_13 : js_OkG 256 13 (o_ic 1 14) := js_St.okG (st_iconst rfl d_256_13) (fun _ _ _ _ _ => rfl)
theorem ki_256_12 : js_OkG 256 12 (o_aj 3 13) := og_aj1 rfl rfl rfl (Nat.le_of_ble_eq_true rfl) d_256_12
theorem ki_256_9 : js_OkG 256 9 (o_go 18) := js_St.okG (st_goto (by decide) d_256_9) (fun _ _ _ _ _ => rfl)
theorem ki_256_8 : js_OkG 256 8 (o_sL 102 9) := js_St.okG (st_sL d_256_8) (fun _ _ _ _ _ => rfl)
theorem ki_256_7 : js_OkG 256 7 (o_i2l 8) := js_St.okG (st_i2l d_256_7) (fun _ _ _ _ _ => rfl)
theorem ki_256_4 : js_OkG 256 4 (o_hI 61 2 8 [("java/util/NoSuchElementException", 12), ("java/lang/IllegalStateException", 15)] 7) := og_hI (site_V kk_256_61 (by decide) kw_693 kw_694 kw_695 (fun t ht => by cases ht; exact Or.inl ⟨_, rfl, rfl⟩) d_256_4) rfl rfl ⟨⟨by decide +kernel, by decide, rfl, rfl⟩, kw_692, kn_447, by decide +kernel, ⟨⟨by decide +kernel, by decide, rfl, rfl⟩, kw_674, kn_551, by decide +kernel, trivial⟩⟩
theorem ki_256_3 : js_OkG 256 3 (o_il 1 4) := js_St.okG (st_iloadn rfl d_256_3) (fun _ _ _ _ _ => rfl)
theorem ki_256_2 : js_OkG 256 2 (o_al 0 3) := js_St.okG (st_aloadn rfl d_256_2) (fun _ _ _ _ _ => rfl)
theorem ki_256_1 : js_OkG 256 1 (o_ic 0 2) := js_St.okG (st_iconst rfl d_256_1) (fun _ _ _ _ _ => rfl)
theorem ki_256_0 : js_OkG 256 0 (o_al 2 1) := js_St.okG (st_aloadn rfl d_256_0) (fun _ _ _ _ _ => rfl)
theorem ki_256_19 : js_OkG 256 19 (o_rI) := og_rI d_256_19
theorem ki_256_18 : js_OkG 256 18 (o_ic 0 19) := js_St.okG (st_iconst rfl d_256_18) (fun _ _ _ _ _ => rfl)
theorem ki_256_17 : js_OkG 256 17 (o_rI) := og_rI d_256_17
theorem ki_256_16 : js_OkG 256 16 (o_ic 2 17) := js_St.okG (st_iconst rfl d_256_16) (fun _ _ _ _ _ => rfl)
set_option maxRecDepth 20000 in
theorem d_257_0 : decode (js_b 257) 0 = .ok (.aload_n 2, 1) := by decide +kernel
set_option maxRecDepth 20000 in
theorem d_257_1 : decode (js_b 257) 1 = .ok (.iconst 0, 1) := by decide +kernel
set_option maxRecDepth 20000 in
theorem d_257_2 : decode (js_b 257) 2 = .ok (.aload_n 0, 1) := by decide +kernel
set_option maxRecDepth 20000 in
theorem d_257_3 : decode (js_b 257) 3 = .ok (.iload_n 1, 1) := by decide +kernel
set_option maxRecDepth 20000 in
theorem d_257_4 : decode (js_b 257) 4 = .ok (.invokevirtual 23, 3) := by decide +kernel
set_option maxRecDepth 20000 in
theorem d_257_7 : decode (js_b 257) 7 = .ok (.i2l, 1) := by decide +kernel
set_option maxRecDepth 20000 in
theorem d_257_8 : decode (js_b 257) 8 = .ok (.lastore, 1) := by decide +kernel
set_option maxRecDepth 20000 in
theorem d_257_9 : decode (js_b 257) 9 = .ok (.goto 6, 3) := by decide +kernel
set_option maxRecDepth 20000 in
theorem d_257_12 : decode (js_b 257) 12 = .ok (.astore_n 3, 1) := by decide +kernel
set_option maxRecDepth 20000 in
theorem d_257_13 : decode (js_b 257) 13 = .ok (.iconst 1, 1) := by decide +kernel
set_option maxRecDepth 20000 in
theorem d_257_14 : decode (js_b 257) 14 = .ok (.ireturn, 1) := by decide +kernel
set_option maxRecDepth 20000 in
theorem d_257_15 : decode (js_b 257) 15 = .ok (.iconst 0, 1) := by decide +kernel
set_option maxRecDepth 20000 in
theorem d_257_16 : decode (js_b 257) 16 = .ok (.ireturn, 1) := by decide +kernel
theorem ki_257_15 : js_OkG 257 15 (o_ic 0 16) := js_St.okG (st_iconst rfl d_257_15) (fun _ _ _ _ _ => rfl)
theorem ki_257_14 : js_OkG 257 14 (o_rI) := og_rI d_257_14
theorem ki_257_13 : js_OkG 257 13 (o_ic 1 14) := js_St.okG (st_iconst rfl d_257_13) (fun _ _ _ _ _ => rfl)
theorem ki_257_12 : js_OkG 257 12 (o_aj 3 13) := og_aj1 rfl rfl rfl (Nat.le_of_ble_eq_true rfl) d_257_12
theorem ki_257_9 : js_OkG 257 9 (o_go 15) := js_St.okG (st_goto (by decide) d_257_9) (fun _ _ _ _ _ => rfl)
theorem ki_257_8 : js_OkG 257 8 (o_sL 102 9) := js_St.okG (st_sL d_257_8) (fun _ _ _ _ _ => rfl)
theorem ki_257_7 : js_OkG 257 7 (o_i2l 8) := js_St.okG (st_i2l d_257_7) (fun _ _ _ _ _ => rfl)
theorem ki_257_4 : js_OkG 257 4 (o_hI 64 2 8 [("java/lang/IndexOutOfBoundsException", 12)] 7) := og_hI (site_V kk_257_64 (by decide) kw_725 kw_726 kw_727 (fun t ht => by cases ht; exact Or.inl ⟨_, rfl, rfl⟩) d_257_4) rfl rfl ⟨⟨by decide +kernel, by decide, rfl, rfl⟩, kw_704, kn_519, by decide +kernel, trivial⟩
theorem ki_257_3 : js_OkG 257 3 (o_il 1 4) := js_St.okG (st_iloadn rfl d_257_3) (fun _ _ _ _ _ => rfl)
theorem ki_257_2 : js_OkG 257 2 (o_al 0 3) := js_St.okG (st_aloadn rfl d_257_2) (fun _ _ _ _ _ => rfl)
theorem ki_257_1 : js_OkG 257 1 (o_ic 0 2) := js_St.okG (st_iconst rfl d_257_1) (fun _ _ _ _ _ => rfl)
theorem ki_257_0 : js_OkG 257 0 (o_al 2 1) := js_St.okG (st_aloadn rfl d_257_0) (fun _ _ _ _ _ => rfl)
theorem ki_257_16 : js_OkG 257 16 (o_rI) := og_rI d_257_16
set_option maxRecDepth 20000 in
theorem d_258_0 : decode (js_b 258) 0 = .ok (.aload_n 2, 1) := by decide +kernel
set_option maxRecDepth 20000 in
theorem d_258_1 : decode (js_b 258) 1 = .ok (.iconst 0, 1) := by decide +kernel
set_option maxRecDepth 20000 in
theorem d_258_2 : decode (js_b 258) 2 = .ok (.aload_n 0, 1) := by decide +kernel
set_option maxRecDepth 20000 in
theorem d_258_3 : decode (js_b 258) 3 = .ok (.iload_n 1, 1) := by decide +kernel
set_option maxRecDepth 20000 in
theorem d_258_4 : decode (js_b 258) 4 = .ok (.invokevirtual 28, 3) := by decide +kernel
set_option maxRecDepth 20000 in
theorem d_258_7 : decode (js_b 258) 7 = .ok (.i2l, 1) := by decide +kernel
set_option maxRecDepth 20000 in
theorem d_258_8 : decode (js_b 258) 8 = .ok (.lastore, 1) := by decide +kernel
set_option maxRecDepth 20000 in
theorem d_258_9 : decode (js_b 258) 9 = .ok (.goto 6, 3) := by decide +kernel
set_option maxRecDepth 20000 in
theorem d_258_12 : decode (js_b 258) 12 = .ok (.astore_n 3, 1) := by decide +kernel
set_option maxRecDepth 20000 in
theorem d_258_13 : decode (js_b 258) 13 = .ok (.iconst 1, 1) := by decide +kernel
set_option maxRecDepth 20000 in
theorem d_258_14 : decode (js_b 258) 14 = .ok (.ireturn, 1) := by decide +kernel
set_option maxRecDepth 20000 in
theorem d_258_15 : decode (js_b 258) 15 = .ok (.iconst 0, 1) := by decide +kernel
set_option maxRecDepth 20000 in
theorem d_258_16 : decode (js_b 258) 16 = .ok (.ireturn, 1) := by decide +kernel
theorem ki_258_15 : js_OkG 258 15 (o_ic 0 16) := js_St.okG (st_iconst rfl d_258_15) (fun _ _ _ _ _ => rfl)
theorem ki_258_14 : js_OkG 258 14 (o_rI) := og_rI d_258_14
theorem ki_258_13 : js_OkG 258 13 (o_ic 1 14) := js_St.okG (st_iconst rfl d_258_13) (fun _ _ _ _ _ => rfl)
theorem ki_258_12 : js_OkG 258 12 (o_aj 3 13) := og_aj1 rfl rfl rfl (Nat.le_of_ble_eq_true rfl) d_258_12
theorem ki_258_9 : js_OkG 258 9 (o_go 15) := js_St.okG (st_goto (by decide) d_258_9) (fun _ _ _ _ _ => rfl)
theorem ki_258_8 : js_OkG 258 8 (o_sL 102 9) := js_St.okG (st_sL d_258_8) (fun _ _ _ _ _ => rfl)
theorem ki_258_7 : js_OkG 258 7 (o_i2l 8) := js_St.okG (st_i2l d_258_7) (fun _ _ _ _ _ => rfl)
theorem ki_258_4 : js_OkG 258 4 (o_hI 66 2 8 [("java/util/NoSuchElementException", 12)] 7) := og_hI (site_V kk_258_66 (by decide) kw_737 kw_738 kw_739 (fun t ht => by cases ht; exact Or.inl ⟨_, rfl, rfl⟩) d_258_4) rfl rfl ⟨⟨by decide +kernel, by decide, rfl, rfl⟩, kw_692, kn_447, by decide +kernel, trivial⟩
theorem ki_258_3 : js_OkG 258 3 (o_il 1 4) := js_St.okG (st_iloadn rfl d_258_3) (fun _ _ _ _ _ => rfl)
theorem ki_258_2 : js_OkG 258 2 (o_al 0 3) := js_St.okG (st_aloadn rfl d_258_2) (fun _ _ _ _ _ => rfl)
theorem ki_258_1 : js_OkG 258 1 (o_ic 0 2) := js_St.okG (st_iconst rfl d_258_1) (fun _ _ _ _ _ => rfl)
theorem ki_258_0 : js_OkG 258 0 (o_al 2 1) := js_St.okG (st_aloadn rfl d_258_0) (fun _ _ _ _ _ => rfl)
theorem ki_258_16 : js_OkG 258 16 (o_rI) := og_rI d_258_16
set_option maxRecDepth 20000 in
theorem d_259_0 : decode (js_b 259) 0 = .ok (.aload_n 2, 1) := by decide +kernel
set_option maxRecDepth 20000 in
theorem d_259_1 : decode (js_b 259) 1 = .ok (.iconst 0, 1) := by decide +kernel
set_option maxRecDepth 20000 in
theorem d_259_2 : decode (js_b 259) 2 = .ok (.aload_n 0, 1) := by decide +kernel
set_option maxRecDepth 20000 in
theorem d_259_3 : decode (js_b 259) 3 = .ok (.iload_n 1, 1) := by decide +kernel
set_option maxRecDepth 20000 in
theorem d_259_4 : decode (js_b 259) 4 = .ok (.invokevirtual 32, 3) := by decide +kernel
set_option maxRecDepth 20000 in
theorem d_259_7 : decode (js_b 259) 7 = .ok (.i2l, 1) := by decide +kernel
set_option maxRecDepth 20000 in
theorem d_259_8 : decode (js_b 259) 8 = .ok (.lastore, 1) := by decide +kernel
set_option maxRecDepth 20000 in
theorem d_259_9 : decode (js_b 259) 9 = .ok (.goto 6, 3) := by decide +kernel
set_option maxRecDepth 20000 in
theorem d_259_12 : decode (js_b 259) 12 = .ok (.astore_n 3, 1) := by decide +kernel
set_option maxRecDepth 20000 in
theorem d_259_13 : decode (js_b 259) 13 = .ok (.iconst 1, 1) := by decide +kernel
set_option maxRecDepth 20000 in
theorem d_259_14 : decode (js_b 259) 14 = .ok (.ireturn, 1) := by decide +kernel
set_option maxRecDepth 20000 in
theorem d_259_15 : decode (js_b 259) 15 = .ok (.iconst 0, 1) := by decide +kernel
set_option maxRecDepth 20000 in
theorem d_259_16 : decode (js_b 259) 16 = .ok (.ireturn, 1) := by decide +kernel
theorem ki_259_15 : js_OkG 259 15 (o_ic 0 16) := js_St.okG (st_iconst rfl d_259_15) (fun _ _ _ _ _ => rfl)
theorem ki_259_14 : js_OkG 259 14 (o_rI) := og_rI d_259_14
theorem ki_259_13 : js_OkG 259 13 (o_ic 1 14) := js_St.okG (st_iconst rfl d_259_13) (fun _ _ _ _ _ => rfl)
theorem ki_259_12 : js_OkG 259 12 (o_aj 3 13) := og_aj1 rfl rfl rfl (Nat.le_of_ble_eq_true rfl) d_259_12
theorem ki_259_9 : js_OkG 259 9 (o_go 15) := js_St.okG (st_goto (by decide) d_259_9) (fun _ _ _ _ _ => rfl)
theorem ki_259_8 : js_OkG 259 8 (o_sL 102 9) := js_St.okG (st_sL d_259_8) (fun _ _ _ _ _ => rfl)
theorem ki_259_7 : js_OkG 259 7 (o_i2l 8) := js_St.okG (st_i2l d_259_7) (fun _ _ _ _ _ => rfl)
theorem ki_259_4 : js_OkG 259 4 (o_hI 67 2 8 [("java/util/NoSuchElementException", 12)] 7) := og_hI (site_V kk_259_67 (by decide) kw_748 kw_749 kw_750 (fun t ht => by cases ht; exact Or.inl ⟨_, rfl, rfl⟩) d_259_4) rfl rfl ⟨⟨by decide +kernel, by decide, rfl, rfl⟩, kw_692, kn_447, by decide +kernel, trivial⟩
theorem ki_259_3 : js_OkG 259 3 (o_il 1 4) := js_St.okG (st_iloadn rfl d_259_3) (fun _ _ _ _ _ => rfl)
theorem ki_259_2 : js_OkG 259 2 (o_al 0 3) := js_St.okG (st_aloadn rfl d_259_2) (fun _ _ _ _ _ => rfl)
theorem ki_259_1 : js_OkG 259 1 (o_ic 0 2) := js_St.okG (st_iconst rfl d_259_1) (fun _ _ _ _ _ => rfl)
theorem ki_259_0 : js_OkG 259 0 (o_al 2 1) := js_St.okG (st_aloadn rfl d_259_0) (fun _ _ _ _ _ => rfl)
theorem ki_259_16 : js_OkG 259 16 (o_rI) := og_rI d_259_16
set_option maxRecDepth 20000 in
theorem d_260_0 : decode (js_b 260) 0 = .ok (.aload_n 3, 1) := by decide +kernel
set_option maxRecDepth 20000 in
theorem d_260_1 : decode (js_b 260) 1 = .ok (.iconst 0, 1) := by decide +kernel
set_option maxRecDepth 20000 in
theorem d_260_2 : decode (js_b 260) 2 = .ok (.aload_n 0, 1) := by decide +kernel
set_option maxRecDepth 20000 in
theorem d_260_3 : decode (js_b 260) 3 = .ok (.iload_n 1, 1) := by decide +kernel
set_option maxRecDepth 20000 in
theorem d_260_4 : decode (js_b 260) 4 = .ok (.iload_n 2, 1) := by decide +kernel
set_option maxRecDepth 20000 in
theorem d_260_5 : decode (js_b 260) 5 = .ok (.invokevirtual 35, 3) := by decide +kernel
set_option maxRecDepth 20000 in
theorem d_260_8 : decode (js_b 260) 8 = .ok (.i2l, 1) := by decide +kernel
set_option maxRecDepth 20000 in
theorem d_260_9 : decode (js_b 260) 9 = .ok (.lastore, 1) := by decide +kernel
set_option maxRecDepth 20000 in
theorem d_260_10 : decode (js_b 260) 10 = .ok (.goto 11, 3) := by decide +kernel
set_option maxRecDepth 20000 in
theorem d_260_13 : decode (js_b 260) 13 = .ok (.astore 4, 2) := by decide +kernel
set_option maxRecDepth 20000 in
theorem d_260_15 : decode (js_b 260) 15 = .ok (.iconst 1, 1) := by decide +kernel
set_option maxRecDepth 20000 in
theorem d_260_16 : decode (js_b 260) 16 = .ok (.ireturn, 1) := by decide +kernel
set_option maxRecDepth 20000 in
theorem d_260_17 : decode (js_b 260) 17 = .ok (.astore 4, 2) := by decide +kernel
set_option maxRecDepth 20000 in
theorem d_260_19 : decode (js_b 260) 19 = .ok (.iconst 2, 1) := by decide +kernel
set_option maxRecDepth 20000 in
theorem d_260_20 : decode (js_b 260) 20 = .ok (.ireturn, 1) := by decide +kernel
set_option maxRecDepth 20000 in
theorem d_260_21 : decode (js_b 260) 21 = .ok (.iconst 0, 1) := by decide +kernel
set_option maxRecDepth 20000 in
theorem d_260_22 : decode (js_b 260) 22 = .ok (.ireturn, 1) := by decide +kernel
theorem ki_260_15 : js_OkG 260 15 (o_ic 1 16) := js_St.okG (st_iconst rfl d_260_15) (fun _ _ _ _ _ => rfl)
theorem ki_260_13 : js_OkG 260 13 (o_aj 4 15) := og_aj2 rfl rfl (Nat.le_of_ble_eq_true rfl) d_260_13
theorem ki_260_10 : js_OkG 260 10 (o_go 21) := js_St.okG (st_goto (by decide) d_260_10) (fun _ _ _ _ _ => rfl)
theorem ki_260_9 : js_OkG 260 9 (o_sL 102 10) := js_St.okG (st_sL d_260_9) (fun _ _ _ _ _ => rfl)
theorem ki_260_8 : js_OkG 260 8 (o_i2l 9) := js_St.okG (st_i2l d_260_8) (fun _ _ _ _ _ => rfl)
theorem ki_260_5 : js_OkG 260 5 (o_hI 68 3 8 [("java/util/NoSuchElementException", 13), ("java/lang/IllegalArgumentException", 17)] 8) := og_hI (site_V kk_260_68 (by decide) kw_755 kw_756 kw_757 (fun t ht => by cases ht; exact Or.inl ⟨_, rfl, rfl⟩) d_260_5) rfl rfl ⟨⟨by decide +kernel, by decide, rfl, rfl⟩, kw_692, kn_447, by decide +kernel, ⟨⟨by decide +kernel, by decide, rfl, rfl⟩, kw_673, kn_535, by decide +kernel, trivial⟩⟩
theorem ki_260_4 : js_OkG 260 4 (o_il 2 5) := js_St.okG (st_iloadn rfl d_260_4) (fun _ _ _ _ _ => rfl)
theorem ki_260_3 : js_OkG 260 3 (o_il 1 4) := js_St.okG (st_iloadn rfl d_260_3) (fun _ _ _ _ _ => rfl)
theorem ki_260_2 : js_OkG 260 2 (o_al 0 3) := js_St.okG (st_aloadn rfl d_260_2) (fun _ _ _ _ _ => rfl)
theorem ki_260_1 : js_OkG 260 1 (o_ic 0 2) := js_St.okG (st_iconst rfl d_260_1) (fun _ _ _ _ _ => rfl)
theorem ki_260_0 : js_OkG 260 0 (o_al 3 1) := js_St.okG (st_aloadn rfl d_260_0) (fun _ _ _ _ _ => rfl)
theorem ki_260_22 : js_OkG 260 22 (o_rI) := og_rI d_260_22
theorem ki_260_21 : js_OkG 260 21 (o_ic 0 22) := js_St.okG (st_iconst rfl d_260_21) (fun _ _ _ _ _ => rfl)
theorem ki_260_20 : js_OkG 260 20 (o_rI) := og_rI d_260_20
theorem ki_260_19 : js_OkG 260 19 (o_ic 2 20) := js_St.okG (st_iconst rfl d_260_19) (fun _ _ _ _ _ => rfl)
theorem ki_260_17 : js_OkG 260 17 (o_aj 4 19) := og_aj2 rfl rfl (Nat.le_of_ble_eq_true rfl) d_260_17
theorem ki_260_16 : js_OkG 260 16 (o_rI) := og_rI d_260_16
set_option maxRecDepth 20000 in
theorem d_261_0 : decode (js_b 261) 0 = .ok (.aload_n 2, 1) := by decide +kernel
set_option maxRecDepth 20000 in
theorem d_261_1 : decode (js_b 261) 1 = .ok (.iconst 0, 1) := by decide +kernel
set_option maxRecDepth 20000 in
theorem d_261_2 : decode (js_b 261) 2 = .ok (.aload_n 0, 1) := by decide +kernel
set_option maxRecDepth 20000 in
theorem d_261_3 : decode (js_b 261) 3 = .ok (.iload_n 1, 1) := by decide +kernel
set_option maxRecDepth 20000 in
theorem d_261_4 : decode (js_b 261) 4 = .ok (.invokevirtual 39, 3) := by decide +kernel
set_option maxRecDepth 20000 in
theorem d_261_7 : decode (js_b 261) 7 = .ok (.ifCond .eq 7, 3) := by decide +kernel
set_option maxRecDepth 20000 in
theorem d_261_10 : decode (js_b 261) 10 = .ok (.lconst 1, 1) := by decide +kernel
set_option maxRecDepth 20000 in
theorem d_261_11 : decode (js_b 261) 11 = .ok (.goto 4, 3) := by decide +kernel
set_option maxRecDepth 20000 in
theorem d_261_14 : decode (js_b 261) 14 = .ok (.lconst 0, 1) := by decide +kernel
set_option maxRecDepth 20000 in
theorem d_261_15 : decode (js_b 261) 15 = .ok (.lastore, 1) := by decide +kernel
set_option maxRecDepth 20000 in
theorem d_261_16 : decode (js_b 261) 16 = .ok (.goto 6, 3) := by decide +kernel
set_option maxRecDepth 20000 in
theorem d_261_19 : decode (js_b 261) 19 = .ok (.astore_n 3, 1) := by decide +kernel
set_option maxRecDepth 20000 in
theorem d_261_20 : decode (js_b 261) 20 = .ok (.iconst 1, 1) := by decide +kernel
set_option maxRecDepth 20000 in
theorem d_261_21 : decode (js_b 261) 21 = .ok (.ireturn, 1) := by decide +kernel
set_option maxRecDepth 20000 in
theorem d_261_22 : decode (js_b 261) 22 = .ok (.iconst 0, 1) := by decide +kernel
set_option maxRecDepth 20000 in
theorem d_261_23 : decode (js_b 261) 23 = .ok (.ireturn, 1) := by decide +kernel
theorem ki_261_15 : js_OkG 261 15 (o_sL 102 16) := js_St.okG (st_sL d_261_15) (fun _ _ _ _ _ => rfl)
theorem ki_261_14 : js_OkG 261 14 (o_lc 0 15) := js_St.okG (st_lconst rfl d_261_14) (fun _ _ _ _ _ => rfl)
theorem ki_261_11 : js_OkG 261 11 (o_go 15) := js_St.okG (st_goto (by decide) d_261_11) (fun _ _ _ _ _ => rfl)
theorem ki_261_10 : js_OkG 261 10 (o_lc 1 11) := js_St.okG (st_lconst rfl d_261_10) (fun _ _ _ _ _ => rfl)
theorem ki_261_7 : js_OkG 261 7 (o_eq 14 10) := js_St.okG (st_ifeq (by decide) d_261_7) (fun _ _ _ _ _ => rfl)
theorem ki_261_4 : js_OkG 261 4 (o_hI 69 2 8 [("java/util/NoSuchElementException", 19)] 7) := og_hI (site_V kk_261_69 (by decide) kw_767 kw_768 kw_769 (fun t ht => by cases ht; exact Or.inl ⟨_, rfl, rfl⟩) d_261_4) rfl rfl ⟨⟨by decide +kernel, by decide, rfl, rfl⟩, kw_692, kn_447, by decide +kernel, trivial⟩
theorem ki_261_3 : js_OkG 261 3 (o_il 1 4) := js_St.okG (st_iloadn rfl d_261_3) (fun _ _ _ _ _ => rfl)
theorem ki_261_2 : js_OkG 261 2 (o_al 0 3) := js_St.okG (st_aloadn rfl d_261_2) (fun _ _ _ _ _ => rfl)
theorem ki_261_1 : js_OkG 261 1 (o_ic 0 2) := js_St.okG (st_iconst rfl d_261_1) (fun _ _ _ _ _ => rfl)
theorem ki_261_0 : js_OkG 261 0 (o_al 2 1) := js_St.okG (st_aloadn rfl d_261_0) (fun _ _ _ _ _ => rfl)
theorem ki_261_23 : js_OkG 261 23 (o_rI) := og_rI d_261_23
theorem ki_261_22 : js_OkG 261 22 (o_ic 0 23) := js_St.okG (st_iconst rfl d_261_22) (fun _ _ _ _ _ => rfl)
theorem ki_261_21 : js_OkG 261 21 (o_rI) := og_rI d_261_21
theorem ki_261_20 : js_OkG 261 20 (o_ic 1 21) := js_St.okG (st_iconst rfl d_261_20) (fun _ _ _ _ _ => rfl)
theorem ki_261_19 : js_OkG 261 19 (o_aj 3 20) := og_aj1 rfl rfl rfl (Nat.le_of_ble_eq_true rfl) d_261_19
theorem ki_261_16 : js_OkG 261 16 (o_go 22) := js_St.okG (st_goto (by decide) d_261_16) (fun _ _ _ _ _ => rfl)
set_option maxRecDepth 20000 in
theorem d_262_0 : decode (js_b 262) 0 = .ok (.aload_n 2, 1) := by decide +kernel
set_option maxRecDepth 20000 in
theorem d_262_1 : decode (js_b 262) 1 = .ok (.iconst 0, 1) := by decide +kernel
set_option maxRecDepth 20000 in
theorem d_262_2 : decode (js_b 262) 2 = .ok (.aload_n 0, 1) := by decide +kernel
set_option maxRecDepth 20000 in
theorem d_262_3 : decode (js_b 262) 3 = .ok (.iload_n 1, 1) := by decide +kernel
set_option maxRecDepth 20000 in
theorem d_262_4 : decode (js_b 262) 4 = .ok (.invokevirtual 43, 3) := by decide +kernel
set_option maxRecDepth 20000 in
theorem d_262_7 : decode (js_b 262) 7 = .ok (.i2l, 1) := by decide +kernel
set_option maxRecDepth 20000 in
theorem d_262_8 : decode (js_b 262) 8 = .ok (.lastore, 1) := by decide +kernel
set_option maxRecDepth 20000 in
theorem d_262_9 : decode (js_b 262) 9 = .ok (.goto 6, 3) := by decide +kernel
set_option maxRecDepth 20000 in
theorem d_262_12 : decode (js_b 262) 12 = .ok (.astore_n 3, 1) := by decide +kernel
set_option maxRecDepth 20000 in
theorem d_262_13 : decode (js_b 262) 13 = .ok (.iconst 1, 1) := by decide +kernel
set_option maxRecDepth 20000 in
theorem d_262_14 : decode (js_b 262) 14 = .ok (.ireturn, 1) := by decide +kernel
set_option maxRecDepth 20000 in
theorem d_262_15 : decode (js_b 262) 15 = .ok (.iconst 0, 1) := by decide +kernel
set_option maxRecDepth 20000 in
theorem d_262_16 : decode (js_b 262) 16 = .ok (.ireturn, 1) := by decide +kernel
theorem ki_262_15 : js_OkG 262 15 (o_ic 0 16) := js_St.okG (st_iconst rfl d_262_15) (fun _ _ _ _ _ => rfl)
theorem ki_262_14 : js_OkG 262 14 (o_rI) := og_rI d_262_14
theorem ki_262_13 : js_OkG 262 13 (o_ic 1 14) := js_St.okG (st_iconst rfl d_262_13) (fun _ _ _ _ _ => rfl)
theorem ki_262_12 : js_OkG 262 12 (o_aj 3 13) := og_aj1 rfl rfl rfl (Nat.le_of_ble_eq_true rfl) d_262_12
theorem ki_262_9 : js_OkG 262 9 (o_go 15) := js_St.okG (st_goto (by decide) d_262_9) (fun _ _ _ _ _ => rfl)
theorem ki_262_8 : js_OkG 262 8 (o_sL 102 9) := js_St.okG (st_sL d_262_8) (fun _ _ _ _ _ => rfl)
theorem ki_262_7 : js_OkG 262 7 (o_i2l 8) := js_St.okG (st_i2l d_262_7) (fun _ _ _ _ _ => rfl)
theorem ki_262_4 : js_OkG 262 4 (o_hI 70 2 8 [("java/util/NoSuchElementException", 12)] 7) := og_hI (site_V kk_262_70 (by decide) kw_775 kw_776 kw_777 (fun t ht => by cases ht; exact Or.inl ⟨_, rfl, rfl⟩) d_262_4) rfl rfl ⟨⟨by decide +kernel, by decide, rfl, rfl⟩, kw_692, kn_447, by decide +kernel, trivial⟩
theorem ki_262_3 : js_OkG 262 3 (o_il 1 4) := js_St.okG (st_iloadn rfl d_262_3) (fun _ _ _ _ _ => rfl)
theorem ki_262_2 : js_OkG 262 2 (o_al 0 3) := js_St.okG (st_aloadn rfl d_262_2) (fun _ _ _ _ _ => rfl)
theorem ki_262_1 : js_OkG 262 1 (o_ic 0 2) := js_St.okG (st_iconst rfl d_262_1) (fun _ _ _ _ _ => rfl)
theorem ki_262_0 : js_OkG 262 0 (o_al 2 1) := js_St.okG (st_aloadn rfl d_262_0) (fun _ _ _ _ _ => rfl)
theorem ki_262_16 : js_OkG 262 16 (o_rI) := og_rI d_262_16
set_option maxRecDepth 20000 in
theorem d_263_0 : decode (js_b 263) 0 = .ok (.aload 4, 2) := by decide +kernel
set_option maxRecDepth 20000 in
theorem d_263_2 : decode (js_b 263) 2 = .ok (.iconst 0, 1) := by decide +kernel
set_option maxRecDepth 20000 in
theorem d_263_3 : decode (js_b 263) 3 = .ok (.aload_n 0, 1) := by decide +kernel
set_option maxRecDepth 20000 in
theorem d_263_4 : decode (js_b 263) 4 = .ok (.iload_n 1, 1) := by decide +kernel
set_option maxRecDepth 20000 in
theorem d_263_5 : decode (js_b 263) 5 = .ok (.iload_n 2, 1) := by decide +kernel
set_option maxRecDepth 20000 in
theorem d_263_6 : decode (js_b 263) 6 = .ok (.iload_n 3, 1) := by decide +kernel
set_option maxRecDepth 20000 in
theorem d_263_7 : decode (js_b 263) 7 = .ok (.invokevirtual 46, 3) := by decide +kernel
set_option maxRecDepth 20000 in
theorem d_263_10 : decode (js_b 263) 10 = .ok (.i2l, 1) := by decide +kernel
set_option maxRecDepth 20000 in
theorem d_263_11 : decode (js_b 263) 11 = .ok (.lastore, 1) := by decide +kernel
set_option maxRecDepth 20000 in
theorem d_263_12 : decode (js_b 263) 12 = .ok (.goto 15, 3) := by decide +kernel
set_option maxRecDepth 20000 in
theorem d_263_15 : decode (js_b 263) 15 = .ok (.astore 5, 2) := by decide +kernel
set_option maxRecDepth 20000 in
theorem d_263_17 : decode (js_b 263) 17 = .ok (.iconst 1, 1) := by decide +kernel
set_option maxRecDepth 20000 in
theorem d_263_18 : decode (js_b 263) 18 = .ok (.ireturn, 1) := by decide +kernel
set_option maxRecDepth 20000 in
theorem d_263_19 : decode (js_b 263) 19 = .ok (.astore 5, 2) := by decide +kernel
set_option maxRecDepth 20000 in
theorem d_263_21 : decode (js_b 263) 21 = .ok (.iconst 2, 1) := by decide +kernel
set_option maxRecDepth 20000 in
theorem d_263_22 : decode (js_b 263) 22 = .ok (.ireturn, 1) := by decide +kernel
set_option maxRecDepth 20000 in
theorem d_263_23 : decode (js_b 263) 23 = .ok (.astore 5, 2) := by decide +kernel
set_option maxRecDepth 20000 in
theorem d_263_25 : decode (js_b 263) 25 = .ok (.iconst 3, 1) := by decide +kernel
set_option maxRecDepth 20000 in
theorem d_263_26 : decode (js_b 263) 26 = .ok (.ireturn, 1) := by decide +kernel
set_option maxRecDepth 20000 in
theorem d_263_27 : decode (js_b 263) 27 = .ok (.iconst 0, 1) := by decide +kernel
set_option maxRecDepth 20000 in
theorem d_263_28 : decode (js_b 263) 28 = .ok (.ireturn, 1) := by decide +kernel
theorem ki_263_15 : js_OkG 263 15 (o_aj 5 17) := og_aj2 rfl rfl (Nat.le_of_ble_eq_true rfl) d_263_15
theorem ki_263_12 : js_OkG 263 12 (o_go 27) := js_St.okG (st_goto (by decide) d_263_12) (fun _ _ _ _ _ => rfl)
theorem ki_263_11 : js_OkG 263 11 (o_sL 102 12) := js_St.okG (st_sL d_263_11) (fun _ _ _ _ _ => rfl)
theorem ki_263_10 : js_OkG 263 10 (o_i2l 11) := js_St.okG (st_i2l d_263_10) (fun _ _ _ _ _ => rfl)
theorem ki_263_7 : js_OkG 263 7 (o_hI 72 4 8 [("java/util/NoSuchElementException", 15), ("java/lang/IndexOutOfBoundsException", 19), ("java/lang/IllegalStateException", 23)] 10) := og_hI (site_V kk_263_72 (by decide) kw_787 kw_788 kw_789 (fun t ht => by cases ht; exact Or.inl ⟨_, rfl, rfl⟩) d_263_7) rfl rfl ⟨⟨by decide +kernel, by decide, rfl, rfl⟩, kw_692, kn_447, by decide +kernel, ⟨⟨by decide +kernel, by decide, rfl, rfl⟩, kw_704, kn_519, by decide +kernel, ⟨⟨by decide +kernel, by decide, rfl, rfl⟩, kw_674, kn_551, by decide +kernel, trivial⟩⟩⟩
theorem ki_263_6 : js_OkG 263 6 (o_il 3 7) := js_St.okG (st_iloadn rfl d_263_6) (fun _ _ _ _ _ => rfl)
theorem ki_263_5 : js_OkG 263 5 (o_il 2 6) := js_St.okG (st_iloadn rfl d_263_5) (fun _ _ _ _ _ => rfl)
theorem ki_263_4 : js_OkG 263 4 (o_il 1 5) := js_St.okG (st_iloadn rfl d_263_4) (fun _ _ _ _ _ => rfl)
theorem ki_263_3 : js_OkG 263 3 (o_al 0 4) := js_St.okG (st_aloadn rfl d_263_3) (fun _ _ _ _ _ => rfl)
theorem ki_263_2 : js_OkG 263 2 (o_ic 0 3) := js_St.okG (st_iconst rfl d_263_2) (fun _ _ _ _ _ => rfl)
theorem ki_263_0 : js_OkG 263 0 (o_al 4 2) := js_St.okG (st_aload d_263_0) (fun _ _ _ _ _ => rfl)
theorem ki_263_28 : js_OkG 263 28 (o_rI) := og_rI d_263_28
theorem ki_263_27 : js_OkG 263 27 (o_ic 0 28) := js_St.okG (st_iconst rfl d_263_27) (fun _ _ _ _ _ => rfl)
theorem ki_263_26 : js_OkG 263 26 (o_rI) := og_rI d_263_26
theorem ki_263_25 : js_OkG 263 25 (o_ic 3 26) := js_St.okG (st_iconst rfl d_263_25) (fun _ _ _ _ _ => rfl)
theorem ki_263_23 : js_OkG 263 23 (o_aj 5 25) := og_aj2 rfl rfl (Nat.le_of_ble_eq_true rfl) d_263_23
theorem ki_263_22 : js_OkG 263 22 (o_rI) := og_rI d_263_22
theorem ki_263_21 : js_OkG 263 21 (o_ic 2 22) := js_St.okG (st_iconst rfl d_263_21) (fun _ _ _ _ _ => rfl)
theorem ki_263_19 : js_OkG 263 19 (o_aj 5 21) := og_aj2 rfl rfl (Nat.le_of_ble_eq_true rfl) d_263_19
theorem ki_263_18 : js_OkG 263 18 (o_rI) := og_rI d_263_18
theorem ki_263_17 : js_OkG 263 17 (o_ic 1 18) := js_St.okG (st_iconst rfl d_263_17) (fun _ _ _ _ _ => rfl)
set_option maxRecDepth 20000 in
theorem d_264_0 : decode (js_b 264) 0 = .ok (.aload_n 2, 1) := by decide +kernel
set_option maxRecDepth 20000 in
theorem d_264_1 : decode (js_b 264) 1 = .ok (.iconst 0, 1) := by decide +kernel
set_option maxRecDepth 20000 in
theorem d_264_2 : decode (js_b 264) 2 = .ok (.aload_n 0, 1) := by decide +kernel
set_option maxRecDepth 20000 in
theorem d_264_3 : decode (js_b 264) 3 = .ok (.iload_n 1, 1) := by decide +kernel
set_option maxRecDepth 20000 in
theorem d_264_4 : decode (js_b 264) 4 = .ok (.invokevirtual 50, 3) := by decide +kernel
set_option maxRecDepth 20000 in
theorem d_264_7 : decode (js_b 264) 7 = .ok (.i2l, 1) := by decide +kernel
set_option maxRecDepth 20000 in
theorem d_264_8 : decode (js_b 264) 8 = .ok (.lastore, 1) := by decide +kernel
set_option maxRecDepth 20000 in
theorem d_264_9 : decode (js_b 264) 9 = .ok (.goto 9, 3) := by decide +kernel
set_option maxRecDepth 20000 in
theorem d_264_12 : decode (js_b 264) 12 = .ok (.astore_n 3, 1) := by decide +kernel
set_option maxRecDepth 20000 in
theorem d_264_13 : decode (js_b 264) 13 = .ok (.iconst 1, 1) := by decide +kernel
set_option maxRecDepth 20000 in
theorem d_264_14 : decode (js_b 264) 14 = .ok (.ireturn, 1) := by decide +kernel
set_option maxRecDepth 20000 in
theorem d_264_15 : decode (js_b 264) 15 = .ok (.astore_n 3, 1) := by decide +kernel
set_option maxRecDepth 20000 in
theorem d_264_16 : decode (js_b 264) 16 = .ok (.iconst 2, 1) := by decide +kernel
set_option maxRecDepth 20000 in
theorem d_264_17 : decode (js_b 264) 17 = .ok (.ireturn, 1) := by decide +kernel
set_option maxRecDepth 20000 in
theorem d_264_18 : decode (js_b 264) 18 = .ok (.iconst 0, 1) := by decide +kernel
set_option maxRecDepth 20000 in
theorem d_264_19 : decode (js_b 264) 19 = .ok (.ireturn, 1) := by decide +kernel
theorem ki_264_15 : js_OkG 264 15 (o_aj 3 16) := og_aj1 rfl rfl rfl (Nat.le_of_ble_eq_true rfl) d_264_15
theorem ki_264_14 : js_OkG 264 14 (o_rI) := og_rI d_264_14
theorem ki_264_13 : js_OkG 264 13 (o_ic 1 14) := js_St.okG (st_iconst rfl d_264_13) (fun _ _ _ _ _ => rfl)
theorem ki_264_12 : js_OkG 264 12 (o_aj 3 13) := og_aj1 rfl rfl rfl (Nat.le_of_ble_eq_true rfl) d_264_12
theorem ki_264_9 : js_OkG 264 9 (o_go 18) := js_St.okG (st_goto (by decide) d_264_9) (fun _ _ _ _ _ => rfl)
theorem ki_264_8 : js_OkG 264 8 (o_sL 102 9) := js_St.okG (st_sL d_264_8) (fun _ _ _ _ _ => rfl)
theorem ki_264_7 : js_OkG 264 7 (o_i2l 8) := js_St.okG (st_i2l d_264_7) (fun _ _ _ _ _ => rfl)
theorem ki_264_4 : js_OkG 264 4 (o_hI 73 2 8 [("java/util/NoSuchElementException", 12), ("java/lang/IllegalStateException", 15)] 7) := og_hI (site_V kk_264_73 (by decide) kw_804 kw_805 kw_806 (fun t ht => by cases ht; exact Or.inl ⟨_, rfl, rfl⟩) d_264_4) rfl rfl ⟨⟨by decide +kernel, by decide, rfl, rfl⟩, kw_692, kn_447, by decide +kernel, ⟨⟨by decide +kernel, by decide, rfl, rfl⟩, kw_674, kn_551, by decide +kernel, trivial⟩⟩
theorem ki_264_3 : js_OkG 264 3 (o_il 1 4) := js_St.okG (st_iloadn rfl d_264_3) (fun _ _ _ _ _ => rfl)
theorem ki_264_2 : js_OkG 264 2 (o_al 0 3) := js_St.okG (st_aloadn rfl d_264_2) (fun _ _ _ _ _ => rfl)
theorem ki_264_1 : js_OkG 264 1 (o_ic 0 2) := js_St.okG (st_iconst rfl d_264_1) (fun _ _ _ _ _ => rfl)
theorem ki_264_0 : js_OkG 264 0 (o_al 2 1) := js_St.okG (st_aloadn rfl d_264_0) (fun _ _ _ _ _ => rfl)
theorem ki_264_19 : js_OkG 264 19 (o_rI) := og_rI d_264_19
theorem ki_264_18 : js_OkG 264 18 (o_ic 0 19) := js_St.okG (st_iconst rfl d_264_18) (fun _ _ _ _ _ => rfl)
theorem ki_264_17 : js_OkG 264 17 (o_rI) := og_rI d_264_17
theorem ki_264_16 : js_OkG 264 16 (o_ic 2 17) := js_St.okG (st_iconst rfl d_264_16) (fun _ _ _ _ _ => rfl)
set_option maxRecDepth 20000 in
theorem d_265_0 : decode (js_b 265) 0 = .ok (.aload_n 3, 1) := by decide +kernel
set_option maxRecDepth 20000 in
theorem d_265_1 : decode (js_b 265) 1 = .ok (.iconst 0, 1) := by decide +kernel
set_option maxRecDepth 20000 in
theorem d_265_2 : decode (js_b 265) 2 = .ok (.aload_n 0, 1) := by decide +kernel
set_option maxRecDepth 20000 in
theorem d_265_3 : decode (js_b 265) 3 = .ok (.iload_n 1, 1) := by decide +kernel
set_option maxRecDepth 20000 in
theorem d_265_4 : decode (js_b 265) 4 = .ok (.iload_n 2, 1) := by decide +kernel
set_option maxRecDepth 20000 in
theorem d_265_5 : decode (js_b 265) 5 = .ok (.invokevirtual 53, 3) := by decide +kernel
set_option maxRecDepth 20000 in
theorem d_265_8 : decode (js_b 265) 8 = .ok (.i2l, 1) := by decide +kernel
set_option maxRecDepth 20000 in
theorem d_265_9 : decode (js_b 265) 9 = .ok (.lastore, 1) := by decide +kernel
set_option maxRecDepth 20000 in
theorem d_265_10 : decode (js_b 265) 10 = .ok (.goto 11, 3) := by decide +kernel
set_option maxRecDepth 20000 in
theorem d_265_13 : decode (js_b 265) 13 = .ok (.astore 4, 2) := by decide +kernel
set_option maxRecDepth 20000 in
theorem d_265_15 : decode (js_b 265) 15 = .ok (.iconst 1, 1) := by decide +kernel
set_option maxRecDepth 20000 in
theorem d_265_16 : decode (js_b 265) 16 = .ok (.ireturn, 1) := by decide +kernel
set_option maxRecDepth 20000 in
theorem d_265_17 : decode (js_b 265) 17 = .ok (.astore 4, 2) := by decide +kernel
set_option maxRecDepth 20000 in
theorem d_265_19 : decode (js_b 265) 19 = .ok (.iconst 2, 1) := by decide +kernel
set_option maxRecDepth 20000 in
theorem d_265_20 : decode (js_b 265) 20 = .ok (.ireturn, 1) := by decide +kernel
set_option maxRecDepth 20000 in
theorem d_265_21 : decode (js_b 265) 21 = .ok (.iconst 0, 1) := by decide +kernel
set_option maxRecDepth 20000 in
theorem d_265_22 : decode (js_b 265) 22 = .ok (.ireturn, 1) := by decide +kernel
theorem ki_265_15 : js_OkG 265 15 (o_ic 1 16) := js_St.okG (st_iconst rfl d_265_15) (fun _ _ _ _ _ => rfl)
theorem ki_265_13 : js_OkG 265 13 (o_aj 4 15) := og_aj2 rfl rfl (Nat.le_of_ble_eq_true rfl) d_265_13
theorem ki_265_10 : js_OkG 265 10 (o_go 21) := js_St.okG (st_goto (by decide) d_265_10) (fun _ _ _ _ _ => rfl)
theorem ki_265_9 : js_OkG 265 9 (o_sL 102 10) := js_St.okG (st_sL d_265_9) (fun _ _ _ _ _ => rfl)
theorem ki_265_8 : js_OkG 265 8 (o_i2l 9) := js_St.okG (st_i2l d_265_8) (fun _ _ _ _ _ => rfl)
theorem ki_265_5 : js_OkG 265 5 (o_hI 74 3 8 [("java/util/NoSuchElementException", 13), ("java/lang/IllegalArgumentException", 17)] 8) := og_hI (site_V kk_265_74 (by decide) kw_815 kw_816 kw_817 (fun t ht => by cases ht; exact Or.inl ⟨_, rfl, rfl⟩) d_265_5) rfl rfl ⟨⟨by decide +kernel, by decide, rfl, rfl⟩, kw_692, kn_447, by decide +kernel, ⟨⟨by decide +kernel, by decide, rfl, rfl⟩, kw_673, kn_535, by decide +kernel, trivial⟩⟩
theorem ki_265_4 : js_OkG 265 4 (o_il 2 5) := js_St.okG (st_iloadn rfl d_265_4) (fun _ _ _ _ _ => rfl)
theorem ki_265_3 : js_OkG 265 3 (o_il 1 4) := js_St.okG (st_iloadn rfl d_265_3) (fun _ _ _ _ _ => rfl)
theorem ki_265_2 : js_OkG 265 2 (o_al 0 3) := js_St.okG (st_aloadn rfl d_265_2) (fun _ _ _ _ _ => rfl)
theorem ki_265_1 : js_OkG 265 1 (o_ic 0 2) := js_St.okG (st_iconst rfl d_265_1) (fun _ _ _ _ _ => rfl)
theorem ki_265_0 : js_OkG 265 0 (o_al 3 1) := js_St.okG (st_aloadn rfl d_265_0) (fun _ _ _ _ _ => rfl)
theorem ki_265_22 : js_OkG 265 22 (o_rI) := og_rI d_265_22
theorem ki_265_21 : js_OkG 265 21 (o_ic 0 22) := js_St.okG (st_iconst rfl d_265_21) (fun _ _ _ _ _ => rfl)
theorem ki_265_20 : js_OkG 265 20 (o_rI) := og_rI d_265_20
theorem ki_265_19 : js_OkG 265 19 (o_ic 2 20) := js_St.okG (st_iconst rfl d_265_19) (fun _ _ _ _ _ => rfl)
theorem ki_265_17 : js_OkG 265 17 (o_aj 4 19) := og_aj2 rfl rfl (Nat.le_of_ble_eq_true rfl) d_265_17
theorem ki_265_16 : js_OkG 265 16 (o_rI) := og_rI d_265_16
set_option maxRecDepth 20000 in
theorem d_266_0 : decode (js_b 266) 0 = .ok (.aload_n 3, 1) := by decide +kernel
set_option maxRecDepth 20000 in
theorem d_266_1 : decode (js_b 266) 1 = .ok (.iconst 0, 1) := by decide +kernel
set_option maxRecDepth 20000 in
theorem d_266_2 : decode (js_b 266) 2 = .ok (.aload_n 0, 1) := by decide +kernel
set_option maxRecDepth 20000 in
theorem d_266_3 : decode (js_b 266) 3 = .ok (.iload_n 1, 1) := by decide +kernel
set_option maxRecDepth 20000 in
theorem d_266_4 : decode (js_b 266) 4 = .ok (.iload_n 2, 1) := by decide +kernel
set_option maxRecDepth 20000 in
theorem d_266_5 : decode (js_b 266) 5 = .ok (.invokevirtual 56, 3) := by decide +kernel
set_option maxRecDepth 20000 in
theorem d_266_8 : decode (js_b 266) 8 = .ok (.i2l, 1) := by decide +kernel
set_option maxRecDepth 20000 in
theorem d_266_9 : decode (js_b 266) 9 = .ok (.lastore, 1) := by decide +kernel
set_option maxRecDepth 20000 in
theorem d_266_10 : decode (js_b 266) 10 = .ok (.goto 15, 3) := by decide +kernel
set_option maxRecDepth 20000 in
theorem d_266_13 : decode (js_b 266) 13 = .ok (.astore 4, 2) := by decide +kernel
set_option maxRecDepth 20000 in
theorem d_266_15 : decode (js_b 266) 15 = .ok (.iconst 1, 1) := by decide +kernel
set_option maxRecDepth 20000 in
theorem d_266_16 : decode (js_b 266) 16 = .ok (.ireturn, 1) := by decide +kernel
set_option maxRecDepth 20000 in
theorem d_266_17 : decode (js_b 266) 17 = .ok (.astore 4, 2) := by decide +kernel
set_option maxRecDepth 20000 in
theorem d_266_19 : decode (js_b 266) 19 = .ok (.iconst 2, 1) := by decide +kernel
set_option maxRecDepth 20000 in
theorem d_266_20 : decode (js_b 266) 20 = .ok (.ireturn, 1) := by decide +kernel
set_option maxRecDepth 20000 in
theorem d_266_21 : decode (js_b 266) 21 = .ok (.astore 4, 2) := by decide +kernel
set_option maxRecDepth 20000 in
theorem d_266_23 : decode (js_b 266) 23 = .ok (.iconst 3, 1) := by decide +kernel
set_option maxRecDepth 20000 in
theorem d_266_24 : decode (js_b 266) 24 = .ok (.ireturn, 1) := by decide +kernel
set_option maxRecDepth 20000 in
theorem d_266_25 : decode (js_b 266) 25 = .ok (.iconst 0, 1) := by decide +kernel
set_option maxRecDepth 20000 in
theorem d_266_26 : decode (js_b 266) 26 = .ok (.ireturn, 1) := by decide +kernel
theorem ki_266_15 : js_OkG 266 15 (o_ic 1 16) := js_St.okG (st_iconst rfl d_266_15) (fun _ _ _ _ _ => rfl)
theorem ki_266_13 : js_OkG 266 13 (o_aj 4 15) := og_aj2 rfl rfl (Nat.le_of_ble_eq_true rfl) d_266_13
theorem ki_266_10 : js_OkG 266 10 (o_go 25) := js_St.okG (st_goto (by decide) d_266_10) (fun _ _ _ _ _ => rfl)
theorem ki_266_9 : js_OkG 266 9 (o_sL 102 10) := js_St.okG (st_sL d_266_9) (fun _ _ _ _ _ => rfl)
theorem ki_266_8 : js_OkG 266 8 (o_i2l 9) := js_St.okG (st_i2l d_266_8) (fun _ _ _ _ _ => rfl)
theorem ki_266_5 : js_OkG 266 5 (o_hI 75 3 8 [("java/util/NoSuchElementException", 13), ("java/lang/IllegalArgumentException", 17), ("java/lang/IllegalStateException", 21)] 8) := og_hI (site_V kk_266_75 (by decide) kw_826 kw_827 kw_828 (fun t ht => by cases ht; exact Or.inl ⟨_, rfl, rfl⟩) d_266_5) rfl rfl ⟨⟨by decide +kernel, by decide, rfl, rfl⟩, kw_692, kn_447, by decide +kernel, ⟨⟨by decide +kernel, by decide, rfl, rfl⟩, kw_673, kn_535, by decide +kernel, ⟨⟨by decide +kernel, by decide, rfl, rfl⟩, kw_674, kn_551, by decide +kernel, trivial⟩⟩⟩
theorem ki_266_4 : js_OkG 266 4 (o_il 2 5) := js_St.okG (st_iloadn rfl d_266_4) (fun _ _ _ _ _ => rfl)
theorem ki_266_3 : js_OkG 266 3 (o_il 1 4) := js_St.okG (st_iloadn rfl d_266_3) (fun _ _ _ _ _ => rfl)
theorem ki_266_2 : js_OkG 266 2 (o_al 0 3) := js_St.okG (st_aloadn rfl d_266_2) (fun _ _ _ _ _ => rfl)
theorem ki_266_1 : js_OkG 266 1 (o_ic 0 2) := js_St.okG (st_iconst rfl d_266_1) (fun _ _ _ _ _ => rfl)
theorem ki_266_0 : js_OkG 266 0 (o_al 3 1) := js_St.okG (st_aloadn rfl d_266_0) (fun _ _ _ _ _ => rfl)
theorem ki_266_26 : js_OkG 266 26 (o_rI) := og_rI d_266_26
theorem ki_266_25 : js_OkG 266 25 (o_ic 0 26) := js_St.okG (st_iconst rfl d_266_25) (fun _ _ _ _ _ => rfl)
theorem ki_266_24 : js_OkG 266 24 (o_rI) := og_rI d_266_24
theorem ki_266_23 : js_OkG 266 23 (o_ic 3 24) := js_St.okG (st_iconst rfl d_266_23) (fun _ _ _ _ _ => rfl)
theorem ki_266_21 : js_OkG 266 21 (o_aj 4 23) := og_aj2 rfl rfl (Nat.le_of_ble_eq_true rfl) d_266_21
theorem ki_266_20 : js_OkG 266 20 (o_rI) := og_rI d_266_20
theorem ki_266_19 : js_OkG 266 19 (o_ic 2 20) := js_St.okG (st_iconst rfl d_266_19) (fun _ _ _ _ _ => rfl)
theorem ki_266_17 : js_OkG 266 17 (o_aj 4 19) := og_aj2 rfl rfl (Nat.le_of_ble_eq_true rfl) d_266_17
theorem ki_266_16 : js_OkG 266 16 (o_rI) := og_rI d_266_16
set_option maxRecDepth 20000 in
theorem d_267_0 : decode (js_b 267) 0 = .ok (.aload_n 3, 1) := by decide +kernel
set_option maxRecDepth 20000 in
theorem d_267_1 : decode (js_b 267) 1 = .ok (.iconst 0, 1) := by decide +kernel
set_option maxRecDepth 20000 in
theorem d_267_2 : decode (js_b 267) 2 = .ok (.aload_n 0, 1) := by decide +kernel
set_option maxRecDepth 20000 in
theorem d_267_3 : decode (js_b 267) 3 = .ok (.iload_n 1, 1) := by decide +kernel
set_option maxRecDepth 20000 in
theorem d_267_4 : decode (js_b 267) 4 = .ok (.iload_n 2, 1) := by decide +kernel
set_option maxRecDepth 20000 in
theorem d_267_5 : decode (js_b 267) 5 = .ok (.invokevirtual 59, 3) := by decide +kernel
set_option maxRecDepth 20000 in
theorem d_267_8 : decode (js_b 267) 8 = .ok (.i2l, 1) := by decide +kernel
set_option maxRecDepth 20000 in
theorem d_267_9 : decode (js_b 267) 9 = .ok (.lastore, 1) := by decide +kernel
set_option maxRecDepth 20000 in
theorem d_267_10 : decode (js_b 267) 10 = .ok (.goto 15, 3) := by decide +kernel
set_option maxRecDepth 20000 in
theorem d_267_13 : decode (js_b 267) 13 = .ok (.astore 4, 2) := by decide +kernel
set_option maxRecDepth 20000 in
theorem d_267_15 : decode (js_b 267) 15 = .ok (.iconst 1, 1) := by decide +kernel
set_option maxRecDepth 20000 in
theorem d_267_16 : decode (js_b 267) 16 = .ok (.ireturn, 1) := by decide +kernel
set_option maxRecDepth 20000 in
theorem d_267_17 : decode (js_b 267) 17 = .ok (.astore 4, 2) := by decide +kernel
set_option maxRecDepth 20000 in
theorem d_267_19 : decode (js_b 267) 19 = .ok (.iconst 2, 1) := by decide +kernel
set_option maxRecDepth 20000 in
theorem d_267_20 : decode (js_b 267) 20 = .ok (.ireturn, 1) := by decide +kernel
set_option maxRecDepth 20000 in
theorem d_267_21 : decode (js_b 267) 21 = .ok (.astore 4, 2) := by decide +kernel
set_option maxRecDepth 20000 in
theorem d_267_23 : decode (js_b 267) 23 = .ok (.iconst 3, 1) := by decide +kernel
set_option maxRecDepth 20000 in
theorem d_267_24 : decode (js_b 267) 24 = .ok (.ireturn, 1) := by decide +kernel
set_option maxRecDepth 20000 in
theorem d_267_25 : decode (js_b 267) 25 = .ok (.iconst 0, 1) := by decide +kernel
set_option maxRecDepth 20000 in
theorem d_267_26 : decode (js_b 267) 26 = .ok (.ireturn, 1) := by decide +kernel
theorem ki_267_15 : js_OkG 267 15 (o_ic 1 16) := js_St.okG (st_iconst rfl d_267_15) (fun _ _ _ _ _ => rfl)
theorem ki_267_13 : js_OkG 267 13 (o_aj 4 15) := og_aj2 rfl rfl (Nat.le_of_ble_eq_true rfl) d_267_13
theorem ki_267_10 : js_OkG 267 10 (o_go 25) := js_St.okG (st_goto (by decide) d_267_10) (fun _ _ _ _ _ => rfl)
theorem ki_267_9 : js_OkG 267 9 (o_sL 102 10) := js_St.okG (st_sL d_267_9) (fun _ _ _ _ _ => rfl)
theorem ki_267_8 : js_OkG 267 8 (o_i2l 9) := js_St.okG (st_i2l d_267_8) (fun _ _ _ _ _ => rfl)
theorem ki_267_5 : js_OkG 267 5 (o_hI 76 3 8 [("java/lang/IndexOutOfBoundsException", 13), ("java/lang/UnsupportedOperationException", 17), ("java/util/NoSuchElementException", 21)] 8) := og_hI (site_V kk_267_76 (by decide) kw_839 kw_840 kw_841 (fun t ht => by cases ht; exact Or.inl ⟨_, rfl, rfl⟩) d_267_5) rfl rfl ⟨⟨by decide +kernel, by decide, rfl, rfl⟩, kw_704, kn_519, by decide +kernel, ⟨⟨by decide +kernel, by decide, rfl, rfl⟩, kw_838, kn_856, by decide +kernel, ⟨⟨by decide +kernel, by decide, rfl, rfl⟩, kw_692, kn_447, by decide +kernel, trivial⟩⟩⟩
theorem ki_267_4 : js_OkG 267 4 (o_il 2 5) := js_St.okG (st_iloadn rfl d_267_4) (fun _ _ _ _ _ => rfl)
theorem ki_267_3 : js_OkG 267 3 (o_il 1 4) := js_St.okG (st_iloadn rfl d_267_3) (fun _ _ _ _ _ => rfl)
theorem ki_267_2 : js_OkG 267 2 (o_al 0 3) := js_St.okG (st_aloadn rfl d_267_2) (fun _ _ _ _ _ => rfl)
theorem ki_267_1 : js_OkG 267 1 (o_ic 0 2) := js_St.okG (st_iconst rfl d_267_1) (fun _ _ _ _ _ => rfl)
theorem ki_267_0 : js_OkG 267 0 (o_al 3 1) := js_St.okG (st_aloadn rfl d_267_0) (fun _ _ _ _ _ => rfl)
theorem ki_267_26 : js_OkG 267 26 (o_rI) := og_rI d_267_26
theorem ki_267_25 : js_OkG 267 25 (o_ic 0 26) := js_St.okG (st_iconst rfl d_267_25) (fun _ _ _ _ _ => rfl)
theorem ki_267_24 : js_OkG 267 24 (o_rI) := og_rI d_267_24
theorem ki_267_23 : js_OkG 267 23 (o_ic 3 24) := js_St.okG (st_iconst rfl d_267_23) (fun _ _ _ _ _ => rfl)
theorem ki_267_21 : js_OkG 267 21 (o_aj 4 23) := og_aj2 rfl rfl (Nat.le_of_ble_eq_true rfl) d_267_21
theorem ki_267_20 : js_OkG 267 20 (o_rI) := og_rI d_267_20
theorem ki_267_19 : js_OkG 267 19 (o_ic 2 20) := js_St.okG (st_iconst rfl d_267_19) (fun _ _ _ _ _ => rfl)
theorem ki_267_17 : js_OkG 267 17 (o_aj 4 19) := og_aj2 rfl rfl (Nat.le_of_ble_eq_true rfl) d_267_17
theorem ki_267_16 : js_OkG 267 16 (o_rI) := og_rI d_267_16
set_option maxRecDepth 20000 in
theorem d_268_0 : decode (js_b 268) 0 = .ok (.aload_n 3, 1) := by decide +kernel
set_option maxRecDepth 20000 in
theorem d_268_1 : decode (js_b 268) 1 = .ok (.iconst 0, 1) := by decide +kernel
set_option maxRecDepth 20000 in
theorem d_268_2 : decode (js_b 268) 2 = .ok (.aload_n 0, 1) := by decide +kernel
set_option maxRecDepth 20000 in
theorem d_268_3 : decode (js_b 268) 3 = .ok (.iload_n 1, 1) := by decide +kernel
set_option maxRecDepth 20000 in
theorem d_268_4 : decode (js_b 268) 4 = .ok (.iload_n 2, 1) := by decide +kernel
set_option maxRecDepth 20000 in
theorem d_268_5 : decode (js_b 268) 5 = .ok (.invokevirtual 64, 3) := by decide +kernel
set_option maxRecDepth 20000 in
theorem d_268_8 : decode (js_b 268) 8 = .ok (.ifCond .eq 7, 3) := by decide +kernel
set_option maxRecDepth 20000 in
theorem d_268_11 : decode (js_b 268) 11 = .ok (.lconst 1, 1) := by decide +kernel
set_option maxRecDepth 20000 in
theorem d_268_12 : decode (js_b 268) 12 = .ok (.goto 4, 3) := by decide +kernel
set_option maxRecDepth 20000 in
theorem d_268_15 : decode (js_b 268) 15 = .ok (.lconst 0, 1) := by decide +kernel
set_option maxRecDepth 20000 in
theorem d_268_16 : decode (js_b 268) 16 = .ok (.lastore, 1) := by decide +kernel
set_option maxRecDepth 20000 in
theorem d_268_17 : decode (js_b 268) 17 = .ok (.goto 7, 3) := by decide +kernel
set_option maxRecDepth 20000 in
theorem d_268_20 : decode (js_b 268) 20 = .ok (.astore 4, 2) := by decide +kernel
set_option maxRecDepth 20000 in
theorem d_268_22 : decode (js_b 268) 22 = .ok (.iconst 1, 1) := by decide +kernel
set_option maxRecDepth 20000 in
theorem d_268_23 : decode (js_b 268) 23 = .ok (.ireturn, 1) := by decide +kernel
set_option maxRecDepth 20000 in
theorem d_268_24 : decode (js_b 268) 24 = .ok (.iconst 0, 1) := by decide +kernel
set_option maxRecDepth 20000 in
theorem d_268_25 : decode (js_b 268) 25 = .ok (.ireturn, 1) := by decide +kernel
theorem ki_268_15 : js_OkG 268 15 (o_lc 0 16) := js_St.okG (st_lconst rfl d_268_15) (fun _ _ _ _ _ => rfl)
theorem ki_268_12 : js_OkG 268 12 (o_go 16) := js_St.okG (st_goto (by decide) d_268_12) (fun _ _ _ _ _ => rfl)
theorem ki_268_11 : js_OkG 268 11 (o_lc 1 12) := js_St.okG (st_lconst rfl d_268_11) (fun _ _ _ _ _ => rfl)
theorem ki_268_8 : js_OkG 268 8 (o_eq 15 11) := js_St.okG (st_ifeq (by decide) d_268_8) (fun _ _ _ _ _ => rfl)
theorem ki_268_5 : js_OkG 268 5 (o_hI 78 3 8 [("java/lang/IndexOutOfBoundsException", 20)] 8) := og_hI (site_V kk_268_78 (by decide) kw_881 kw_882 kw_883 (fun t ht => by cases ht; exact Or.inl ⟨_, rfl, rfl⟩) d_268_5) rfl rfl ⟨⟨by decide +kernel, by decide, rfl, rfl⟩, kw_704, kn_519, by decide +kernel, trivial⟩
theorem ki_268_4 : js_OkG 268 4 (o_il 2 5) := js_St.okG (st_iloadn rfl d_268_4) (fun _ _ _ _ _ => rfl)
theorem ki_268_3 : js_OkG 268 3 (o_il 1 4) := js_St.okG (st_iloadn rfl d_268_3) (fun _ _ _ _ _ => rfl)
theorem ki_268_2 : js_OkG 268 2 (o_al 0 3) := js_St.okG (st_aloadn rfl d_268_2) (fun _ _ _ _ _ => rfl)
theorem ki_268_1 : js_OkG 268 1 (o_ic 0 2) := js_St.okG (st_iconst rfl d_268_1) (fun _ _ _ _ _ => rfl)
theorem ki_268_0 : js_OkG 268 0 (o_al 3 1) := js_St.okG (st_aloadn rfl d_268_0) (fun _ _ _ _ _ => rfl)
theorem ki_268_25 : js_OkG 268 25 (o_rI) := og_rI d_268_25
theorem ki_268_24 : js_OkG 268 24 (o_ic 0 25) := js_St.okG (st_iconst rfl d_268_24) (fun _ _ _ _ _ => rfl)
theorem ki_268_23 : js_OkG 268 23 (o_rI) := og_rI d_268_23
theorem ki_268_22 : js_OkG 268 22 (o_ic 1 23) := js_St.okG (st_iconst rfl d_268_22) (fun _ _ _ _ _ => rfl)
theorem ki_268_20 : js_OkG 268 20 (o_aj 4 22) := og_aj2 rfl rfl (Nat.le_of_ble_eq_true rfl) d_268_20
theorem ki_268_17 : js_OkG 268 17 (o_go 24) := js_St.okG (st_goto (by decide) d_268_17) (fun _ _ _ _ _ => rfl)
theorem ki_268_16 : js_OkG 268 16 (o_sL 102 17) := js_St.okG (st_sL d_268_16) (fun _ _ _ _ _ => rfl)
set_option maxRecDepth 20000 in
theorem d_269_0 : decode (js_b 269) 0 = .ok (.aload_n 3, 1) := by decide +kernel
set_option maxRecDepth 20000 in
theorem d_269_1 : decode (js_b 269) 1 = .ok (.iconst 0, 1) := by decide +kernel
set_option maxRecDepth 20000 in
theorem d_269_2 : decode (js_b 269) 2 = .ok (.aload_n 0, 1) := by decide +kernel
set_option maxRecDepth 20000 in
theorem d_269_3 : decode (js_b 269) 3 = .ok (.iload_n 1, 1) := by decide +kernel
set_option maxRecDepth 20000 in
theorem d_269_4 : decode (js_b 269) 4 = .ok (.iload_n 2, 1) := by decide +kernel
set_option maxRecDepth 20000 in
theorem d_269_5 : decode (js_b 269) 5 = .ok (.invokevirtual 68, 3) := by decide +kernel
set_option maxRecDepth 20000 in
theorem d_269_8 : decode (js_b 269) 8 = .ok (.i2l, 1) := by decide +kernel
set_option maxRecDepth 20000 in
theorem d_269_9 : decode (js_b 269) 9 = .ok (.lastore, 1) := by decide +kernel
set_option maxRecDepth 20000 in
theorem d_269_10 : decode (js_b 269) 10 = .ok (.goto 11, 3) := by decide +kernel
set_option maxRecDepth 20000 in
theorem d_269_13 : decode (js_b 269) 13 = .ok (.astore 4, 2) := by decide +kernel
set_option maxRecDepth 20000 in
theorem d_269_15 : decode (js_b 269) 15 = .ok (.iconst 1, 1) := by decide +kernel
set_option maxRecDepth 20000 in
theorem d_269_16 : decode (js_b 269) 16 = .ok (.ireturn, 1) := by decide +kernel
set_option maxRecDepth 20000 in
theorem d_269_17 : decode (js_b 269) 17 = .ok (.astore 4, 2) := by decide +kernel
set_option maxRecDepth 20000 in
theorem d_269_19 : decode (js_b 269) 19 = .ok (.iconst 2, 1) := by decide +kernel
set_option maxRecDepth 20000 in
theorem d_269_20 : decode (js_b 269) 20 = .ok (.ireturn, 1) := by decide +kernel
set_option maxRecDepth 20000 in
theorem d_269_21 : decode (js_b 269) 21 = .ok (.iconst 0, 1) := by decide +kernel
set_option maxRecDepth 20000 in
theorem d_269_22 : decode (js_b 269) 22 = .ok (.ireturn, 1) := by decide +kernel
theorem ki_269_15 : js_OkG 269 15 (o_ic 1 16) := js_St.okG (st_iconst rfl d_269_15) (fun _ _ _ _ _ => rfl)
theorem ki_269_13 : js_OkG 269 13 (o_aj 4 15) := og_aj2 rfl rfl (Nat.le_of_ble_eq_true rfl) d_269_13
theorem ki_269_10 : js_OkG 269 10 (o_go 21) := js_St.okG (st_goto (by decide) d_269_10) (fun _ _ _ _ _ => rfl)
theorem ki_269_9 : js_OkG 269 9 (o_sL 102 10) := js_St.okG (st_sL d_269_9) (fun _ _ _ _ _ => rfl)
theorem ki_269_8 : js_OkG 269 8 (o_i2l 9) := js_St.okG (st_i2l d_269_8) (fun _ _ _ _ _ => rfl)
theorem ki_269_5 : js_OkG 269 5 (o_hI 79 3 8 [("java/lang/IndexOutOfBoundsException", 13), ("java/util/NoSuchElementException", 17)] 8) := og_hI (site_V kk_269_79 (by decide) kw_888 kw_889 kw_890 (fun t ht => by cases ht; exact Or.inl ⟨_, rfl, rfl⟩) d_269_5) rfl rfl ⟨⟨by decide +kernel, by decide, rfl, rfl⟩, kw_704, kn_519, by decide +kernel, ⟨⟨by decide +kernel, by decide, rfl, rfl⟩, kw_692, kn_447, by decide +kernel, trivial⟩⟩
theorem ki_269_4 : js_OkG 269 4 (o_il 2 5) := js_St.okG (st_iloadn rfl d_269_4) (fun _ _ _ _ _ => rfl)
theorem ki_269_3 : js_OkG 269 3 (o_il 1 4) := js_St.okG (st_iloadn rfl d_269_3) (fun _ _ _ _ _ => rfl)
theorem ki_269_2 : js_OkG 269 2 (o_al 0 3) := js_St.okG (st_aloadn rfl d_269_2) (fun _ _ _ _ _ => rfl)
theorem ki_269_1 : js_OkG 269 1 (o_ic 0 2) := js_St.okG (st_iconst rfl d_269_1) (fun _ _ _ _ _ => rfl)
theorem ki_269_0 : js_OkG 269 0 (o_al 3 1) := js_St.okG (st_aloadn rfl d_269_0) (fun _ _ _ _ _ => rfl)
theorem ki_269_22 : js_OkG 269 22 (o_rI) := og_rI d_269_22
theorem ki_269_21 : js_OkG 269 21 (o_ic 0 22) := js_St.okG (st_iconst rfl d_269_21) (fun _ _ _ _ _ => rfl)
theorem ki_269_20 : js_OkG 269 20 (o_rI) := og_rI d_269_20
theorem ki_269_19 : js_OkG 269 19 (o_ic 2 20) := js_St.okG (st_iconst rfl d_269_19) (fun _ _ _ _ _ => rfl)
theorem ki_269_17 : js_OkG 269 17 (o_aj 4 19) := og_aj2 rfl rfl (Nat.le_of_ble_eq_true rfl) d_269_17
theorem ki_269_16 : js_OkG 269 16 (o_rI) := og_rI d_269_16
set_option maxRecDepth 20000 in
theorem d_270_0 : decode (js_b 270) 0 = .ok (.aload_n 2, 1) := by decide +kernel
set_option maxRecDepth 20000 in
theorem d_270_1 : decode (js_b 270) 1 = .ok (.iconst 0, 1) := by decide +kernel
set_option maxRecDepth 20000 in
theorem d_270_2 : decode (js_b 270) 2 = .ok (.aload_n 0, 1) := by decide +kernel
set_option maxRecDepth 20000 in
theorem d_270_3 : decode (js_b 270) 3 = .ok (.iload_n 1, 1) := by decide +kernel
set_option maxRecDepth 20000 in
theorem d_270_4 : decode (js_b 270) 4 = .ok (.invokevirtual 71, 3) := by decide +kernel
set_option maxRecDepth 20000 in
theorem d_270_7 : decode (js_b 270) 7 = .ok (.lastore, 1) := by decide +kernel
set_option maxRecDepth 20000 in
theorem d_270_8 : decode (js_b 270) 8 = .ok (.goto 6, 3) := by decide +kernel
set_option maxRecDepth 20000 in
theorem d_270_11 : decode (js_b 270) 11 = .ok (.astore_n 3, 1) := by decide +kernel
set_option maxRecDepth 20000 in
theorem d_270_12 : decode (js_b 270) 12 = .ok (.iconst 1, 1) := by decide +kernel
set_option maxRecDepth 20000 in
theorem d_270_13 : decode (js_b 270) 13 = .ok (.ireturn, 1) := by decide +kernel
set_option maxRecDepth 20000 in
theorem d_270_14 : decode (js_b 270) 14 = .ok (.iconst 0, 1) := by decide +kernel
set_option maxRecDepth 20000 in
theorem d_270_15 : decode (js_b 270) 15 = .ok (.ireturn, 1) := by decide +kernel
theorem ki_270_15 : js_OkG 270 15 (o_rI) := og_rI d_270_15
theorem ki_270_14 : js_OkG 270 14 (o_ic 0 15) := js_St.okG (st_iconst rfl d_270_14) (fun _ _ _ _ _ => rfl)
theorem ki_270_13 : js_OkG 270 13 (o_rI) := og_rI d_270_13
theorem ki_270_12 : js_OkG 270 12 (o_ic 1 13) := js_St.okG (st_iconst rfl d_270_12) (fun _ _ _ _ _ => rfl)
theorem ki_270_11 : js_OkG 270 11 (o_aj 3 12) := og_aj1 rfl rfl rfl (Nat.le_of_ble_eq_true rfl) d_270_11
theorem ki_270_8 : js_OkG 270 8 (o_go 14) := js_St.okG (st_goto (by decide) d_270_8) (fun _ _ _ _ _ => rfl)
theorem ki_270_7 : js_OkG 270 7 (o_sL 102 8) := js_St.okG (st_sL d_270_7) (fun _ _ _ _ _ => rfl)
theorem ki_270_4 : js_OkG 270 4 (o_hL 81 2 8 [("java/lang/IllegalArgumentException", 11)] 7) := og_hL (site_V kk_270_81 (by decide) kw_896 kw_897 kw_898 (fun t ht => by cases ht; exact Or.inl ⟨_, rfl, rfl⟩) d_270_4) rfl rfl ⟨⟨by decide +kernel, by decide, rfl, rfl⟩, kw_673, kn_535, by decide +kernel, trivial⟩
theorem ki_270_3 : js_OkG 270 3 (o_il 1 4) := js_St.okG (st_iloadn rfl d_270_3) (fun _ _ _ _ _ => rfl)
theorem ki_270_2 : js_OkG 270 2 (o_al 0 3) := js_St.okG (st_aloadn rfl d_270_2) (fun _ _ _ _ _ => rfl)
theorem ki_270_1 : js_OkG 270 1 (o_ic 0 2) := js_St.okG (st_iconst rfl d_270_1) (fun _ _ _ _ _ => rfl)
theorem ki_270_0 : js_OkG 270 0 (o_al 2 1) := js_St.okG (st_aloadn rfl d_270_0) (fun _ _ _ _ _ => rfl)
set_option maxRecDepth 20000 in
theorem d_271_0 : decode (js_b 271) 0 = .ok (.aload_n 3, 1) := by decide +kernel
set_option maxRecDepth 20000 in
theorem d_271_1 : decode (js_b 271) 1 = .ok (.iconst 0, 1) := by decide +kernel
set_option maxRecDepth 20000 in
theorem d_271_2 : decode (js_b 271) 2 = .ok (.aload_n 0, 1) := by decide +kernel
set_option maxRecDepth 20000 in
theorem d_271_3 : decode (js_b 271) 3 = .ok (.iload_n 1, 1) := by decide +kernel
set_option maxRecDepth 20000 in
theorem d_271_4 : decode (js_b 271) 4 = .ok (.iload_n 2, 1) := by decide +kernel
set_option maxRecDepth 20000 in
theorem d_271_5 : decode (js_b 271) 5 = .ok (.invokevirtual 75, 3) := by decide +kernel
set_option maxRecDepth 20000 in
theorem d_271_8 : decode (js_b 271) 8 = .ok (.ifCond .eq 7, 3) := by decide +kernel
set_option maxRecDepth 20000 in
theorem d_271_11 : decode (js_b 271) 11 = .ok (.lconst 1, 1) := by decide +kernel
set_option maxRecDepth 20000 in
theorem d_271_12 : decode (js_b 271) 12 = .ok (.goto 4, 3) := by decide +kernel
set_option maxRecDepth 20000 in
theorem d_271_15 : decode (js_b 271) 15 = .ok (.lconst 0, 1) := by decide +kernel
set_option maxRecDepth 20000 in
theorem d_271_16 : decode (js_b 271) 16 = .ok (.lastore, 1) := by decide +kernel
set_option maxRecDepth 20000 in
theorem d_271_17 : decode (js_b 271) 17 = .ok (.goto 11, 3) := by decide +kernel
set_option maxRecDepth 20000 in
theorem d_271_20 : decode (js_b 271) 20 = .ok (.astore 4, 2) := by decide +kernel
set_option maxRecDepth 20000 in
theorem d_271_22 : decode (js_b 271) 22 = .ok (.iconst 1, 1) := by decide +kernel
set_option maxRecDepth 20000 in
theorem d_271_23 : decode (js_b 271) 23 = .ok (.ireturn, 1) := by decide +kernel
set_option maxRecDepth 20000 in
theorem d_271_24 : decode (js_b 271) 24 = .ok (.astore 4, 2) := by decide +kernel
set_option maxRecDepth 20000 in
theorem d_271_26 : decode (js_b 271) 26 = .ok (.iconst 2, 1) := by decide +kernel
set_option maxRecDepth 20000 in
theorem d_271_27 : decode (js_b 271) 27 = .ok (.ireturn, 1) := by decide +kernel
set_option maxRecDepth 20000 in
theorem d_271_28 : decode (js_b 271) 28 = .ok (.iconst 0, 1) := by decide +kernel
set_option maxRecDepth 20000 in
theorem d_271_29 : decode (js_b 271) 29 = .ok (.ireturn, 1) := by decide +kernel
theorem ki_271_15 : js_OkG 271 15 (o_lc 0 16) := js_St.okG (st_lconst rfl d_271_15) (fun _ _ _ _ _ => rfl)
theorem ki_271_12 : js_OkG 271 12 (o_go 16) := js_St.okG (st_goto (by decide) d_271_12) (fun _ _ _ _ _ => rfl)
theorem ki_271_11 : js_OkG 271 11 (o_lc 1 12) := js_St.okG (st_lconst rfl d_271_11) (fun _ _ _ _ _ => rfl)
theorem ki_271_8 : js_OkG 271 8 (o_eq 15 11) := js_St.okG (st_ifeq (by decide) d_271_8) (fun _ _ _ _ _ => rfl)
theorem ki_271_5 : js_OkG 271 5 (o_hI 87 3 8 [("java/util/NoSuchElementException", 20), ("java/lang/IllegalArgumentException", 24)] 8) := og_hI (site_V kk_271_87 (by decide) kw_905 kw_906 kw_907 (fun t ht => by cases ht; exact Or.inl ⟨_, rfl, rfl⟩) d_271_5) rfl rfl ⟨⟨by decide +kernel, by decide, rfl, rfl⟩, kw_692, kn_447, by decide +kernel, ⟨⟨by decide +kernel, by decide, rfl, rfl⟩, kw_673, kn_535, by decide +kernel, trivial⟩⟩
theorem ki_271_4 : js_OkG 271 4 (o_il 2 5) := js_St.okG (st_iloadn rfl d_271_4) (fun _ _ _ _ _ => rfl)
theorem ki_271_3 : js_OkG 271 3 (o_il 1 4) := js_St.okG (st_iloadn rfl d_271_3) (fun _ _ _ _ _ => rfl)
theorem ki_271_2 : js_OkG 271 2 (o_al 0 3) := js_St.okG (st_aloadn rfl d_271_2) (fun _ _ _ _ _ => rfl)
theorem ki_271_1 : js_OkG 271 1 (o_ic 0 2) := js_St.okG (st_iconst rfl d_271_1) (fun _ _ _ _ _ => rfl)
theorem ki_271_0 : js_OkG 271 0 (o_al 3 1) := js_St.okG (st_aloadn rfl d_271_0) (fun _ _ _ _ _ => rfl)
theorem ki_271_29 : js_OkG 271 29 (o_rI) := og_rI d_271_29
theorem ki_271_28 : js_OkG 271 28 (o_ic 0 29) := js_St.okG (st_iconst rfl d_271_28) (fun _ _ _ _ _ => rfl)
theorem ki_271_27 : js_OkG 271 27 (o_rI) := og_rI d_271_27
theorem ki_271_26 : js_OkG 271 26 (o_ic 2 27) := js_St.okG (st_iconst rfl d_271_26) (fun _ _ _ _ _ => rfl)
theorem ki_271_24 : js_OkG 271 24 (o_aj 4 26) := og_aj2 rfl rfl (Nat.le_of_ble_eq_true rfl) d_271_24
theorem ki_271_23 : js_OkG 271 23 (o_rI) := og_rI d_271_23
theorem ki_271_22 : js_OkG 271 22 (o_ic 1 23) := js_St.okG (st_iconst rfl d_271_22) (fun _ _ _ _ _ => rfl)
theorem ki_271_20 : js_OkG 271 20 (o_aj 4 22) := og_aj2 rfl rfl (Nat.le_of_ble_eq_true rfl) d_271_20
theorem ki_271_17 : js_OkG 271 17 (o_go 28) := js_St.okG (st_goto (by decide) d_271_17) (fun _ _ _ _ _ => rfl)
theorem ki_271_16 : js_OkG 271 16 (o_sL 102 17) := js_St.okG (st_sL d_271_16) (fun _ _ _ _ _ => rfl)
set_option maxRecDepth 20000 in
theorem d_272_0 : decode (js_b 272) 0 = .ok (.aload_n 2, 1) := by decide +kernel
set_option maxRecDepth 20000 in
theorem d_272_1 : decode (js_b 272) 1 = .ok (.iconst 0, 1) := by decide +kernel
set_option maxRecDepth 20000 in
theorem d_272_2 : decode (js_b 272) 2 = .ok (.aload_n 0, 1) := by decide +kernel
set_option maxRecDepth 20000 in
theorem d_272_3 : decode (js_b 272) 3 = .ok (.iload_n 1, 1) := by decide +kernel
set_option maxRecDepth 20000 in
theorem d_272_4 : decode (js_b 272) 4 = .ok (.invokevirtual 78, 3) := by decide +kernel
set_option maxRecDepth 20000 in
theorem d_272_7 : decode (js_b 272) 7 = .ok (.i2l, 1) := by decide +kernel
set_option maxRecDepth 20000 in
theorem d_272_8 : decode (js_b 272) 8 = .ok (.lastore, 1) := by decide +kernel
set_option maxRecDepth 20000 in
theorem d_272_9 : decode (js_b 272) 9 = .ok (.goto 6, 3) := by decide +kernel
set_option maxRecDepth 20000 in
theorem d_272_12 : decode (js_b 272) 12 = .ok (.astore_n 3, 1) := by decide +kernel
set_option maxRecDepth 20000 in
theorem d_272_13 : decode (js_b 272) 13 = .ok (.iconst 1, 1) := by decide +kernel
set_option maxRecDepth 20000 in
theorem d_272_14 : decode (js_b 272) 14 = .ok (.ireturn, 1) := by decide +kernel
set_option maxRecDepth 20000 in
theorem d_272_15 : decode (js_b 272) 15 = .ok (.iconst 0, 1) := by decide +kernel
set_option maxRecDepth 20000 in
theorem d_272_16 : decode (js_b 272) 16 = .ok (.ireturn, 1) := by decide +kernel
theorem ki_272_15 : js_OkG 272 15 (o_ic 0 16) := js_St.okG (st_iconst rfl d_272_15) (fun _ _ _ _ _ => rfl)
theorem ki_272_14 : js_OkG 272 14 (o_rI) := og_rI d_272_14
theorem ki_272_13 : js_OkG 272 13 (o_ic 1 14) := js_St.okG (st_iconst rfl d_272_13) (fun _ _ _ _ _ => rfl)
theorem ki_272_12 : js_OkG 272 12 (o_aj 3 13) := og_aj1 rfl rfl rfl (Nat.le_of_ble_eq_true rfl) d_272_12
theorem ki_272_9 : js_OkG 272 9 (o_go 15) := js_St.okG (st_goto (by decide) d_272_9) (fun _ _ _ _ _ => rfl)
theorem ki_272_8 : js_OkG 272 8 (o_sL 102 9) := js_St.okG (st_sL d_272_8) (fun _ _ _ _ _ => rfl)
theorem ki_272_7 : js_OkG 272 7 (o_i2l 8) := js_St.okG (st_i2l d_272_7) (fun _ _ _ _ _ => rfl)
theorem ki_272_4 : js_OkG 272 4 (o_hI 88 2 8 [("java/util/NoSuchElementException", 12)] 7) := og_hI (site_V kk_272_88 (by decide) kw_913 kw_914 kw_915 (fun t ht => by cases ht; exact Or.inl ⟨_, rfl, rfl⟩) d_272_4) rfl rfl ⟨⟨by decide +kernel, by decide, rfl, rfl⟩, kw_692, kn_447, by decide +kernel, trivial⟩
theorem ki_272_3 : js_OkG 272 3 (o_il 1 4) := js_St.okG (st_iloadn rfl d_272_3) (fun _ _ _ _ _ => rfl)
theorem ki_272_2 : js_OkG 272 2 (o_al 0 3) := js_St.okG (st_aloadn rfl d_272_2) (fun _ _ _ _ _ => rfl)
theorem ki_272_1 : js_OkG 272 1 (o_ic 0 2) := js_St.okG (st_iconst rfl d_272_1) (fun _ _ _ _ _ => rfl)
theorem ki_272_0 : js_OkG 272 0 (o_al 2 1) := js_St.okG (st_aloadn rfl d_272_0) (fun _ _ _ _ _ => rfl)
theorem ki_272_16 : js_OkG 272 16 (o_rI) := og_rI d_272_16
set_option maxRecDepth 20000 in
theorem d_273_0 : decode (js_b 273) 0 = .ok (.aload_n 3, 1) := by decide +kernel
set_option maxRecDepth 20000 in
theorem d_273_1 : decode (js_b 273) 1 = .ok (.iconst 0, 1) := by decide +kernel
set_option maxRecDepth 20000 in
theorem d_273_2 : decode (js_b 273) 2 = .ok (.aload_n 0, 1) := by decide +kernel
set_option maxRecDepth 20000 in
theorem d_273_3 : decode (js_b 273) 3 = .ok (.iload_n 1, 1) := by decide +kernel
set_option maxRecDepth 20000 in
theorem d_273_4 : decode (js_b 273) 4 = .ok (.iload_n 2, 1) := by decide +kernel
set_option maxRecDepth 20000 in
theorem d_273_5 : decode (js_b 273) 5 = .ok (.invokevirtual 81, 3) := by decide +kernel
set_option maxRecDepth 20000 in
theorem d_273_8 : decode (js_b 273) 8 = .ok (.i2l, 1) := by decide +kernel
set_option maxRecDepth 20000 in
theorem d_273_9 : decode (js_b 273) 9 = .ok (.lastore, 1) := by decide +kernel
set_option maxRecDepth 20000 in
theorem d_273_10 : decode (js_b 273) 10 = .ok (.goto 11, 3) := by decide +kernel
set_option maxRecDepth 20000 in
theorem d_273_13 : decode (js_b 273) 13 = .ok (.astore 4, 2) := by decide +kernel
set_option maxRecDepth 20000 in
theorem d_273_15 : decode (js_b 273) 15 = .ok (.iconst 1, 1) := by decide +kernel
set_option maxRecDepth 20000 in
theorem d_273_16 : decode (js_b 273) 16 = .ok (.ireturn, 1) := by decide +kernel
set_option maxRecDepth 20000 in
theorem d_273_17 : decode (js_b 273) 17 = .ok (.astore 4, 2) := by decide +kernel
set_option maxRecDepth 20000 in
theorem d_273_19 : decode (js_b 273) 19 = .ok (.iconst 2, 1) := by decide +kernel
set_option maxRecDepth 20000 in
theorem d_273_20 : decode (js_b 273) 20 = .ok (.ireturn, 1) := by decide +kernel
set_option maxRecDepth 20000 in
theorem d_273_21 : decode (js_b 273) 21 = .ok (.iconst 0, 1) := by decide +kernel
set_option maxRecDepth 20000 in
theorem d_273_22 : decode (js_b 273) 22 = .ok (.ireturn, 1) := by decide +kernel
theorem ki_273_15 : js_OkG 273 15 (o_ic 1 16) := js_St.okG (st_iconst rfl d_273_15) (fun _ _ _ _ _ => rfl)
theorem ki_273_13 : js_OkG 273 13 (o_aj 4 15) := og_aj2 rfl rfl (Nat.le_of_ble_eq_true rfl) d_273_13
theorem ki_273_10 : js_OkG 273 10 (o_go 21) := js_St.okG (st_goto (by decide) d_273_10) (fun _ _ _ _ _ => rfl)
theorem ki_273_9 : js_OkG 273 9 (o_sL 102 10) := js_St.okG (st_sL d_273_9) (fun _ _ _ _ _ => rfl)
theorem ki_273_8 : js_OkG 273 8 (o_i2l 9) := js_St.okG (st_i2l d_273_8) (fun _ _ _ _ _ => rfl)
theorem ki_273_5 : js_OkG 273 5 (o_hI 89 3 8 [("java/lang/IndexOutOfBoundsException", 13), ("java/lang/UnsupportedOperationException", 17)] 8) := og_hI (site_V kk_273_89 (by decide) kw_921 kw_922 kw_923 (fun t ht => by cases ht; exact Or.inl ⟨_, rfl, rfl⟩) d_273_5) rfl rfl ⟨⟨by decide +kernel, by decide, rfl, rfl⟩, kw_704, kn_519, by decide +kernel, ⟨⟨by decide +kernel, by decide, rfl, rfl⟩, kw_838, kn_856, by decide +kernel, trivial⟩⟩
theorem ki_273_4 : js_OkG 273 4 (o_il 2 5) := js_St.okG (st_iloadn rfl d_273_4) (fun _ _ _ _ _ => rfl)
theorem ki_273_3 : js_OkG 273 3 (o_il 1 4) := js_St.okG (st_iloadn rfl d_273_3) (fun _ _ _ _ _ => rfl)
theorem ki_273_2 : js_OkG 273 2 (o_al 0 3) := js_St.okG (st_aloadn rfl d_273_2) (fun _ _ _ _ _ => rfl)
theorem ki_273_1 : js_OkG 273 1 (o_ic 0 2) := js_St.okG (st_iconst rfl d_273_1) (fun _ _ _ _ _ => rfl)
theorem ki_273_0 : js_OkG 273 0 (o_al 3 1) := js_St.okG (st_aloadn rfl d_273_0) (fun _ _ _ _ _ => rfl)
theorem ki_273_22 : js_OkG 273 22 (o_rI) := og_rI d_273_22
theorem ki_273_21 : js_OkG 273 21 (o_ic 0 22) := js_St.okG (st_iconst rfl d_273_21) (fun _ _ _ _ _ => rfl)
theorem ki_273_20 : js_OkG 273 20 (o_rI) := og_rI d_273_20
theorem ki_273_19 : js_OkG 273 19 (o_ic 2 20) := js_St.okG (st_iconst rfl d_273_19) (fun _ _ _ _ _ => rfl)
theorem ki_273_17 : js_OkG 273 17 (o_aj 4 19) := og_aj2 rfl rfl (Nat.le_of_ble_eq_true rfl) d_273_17
theorem ki_273_16 : js_OkG 273 16 (o_rI) := og_rI d_273_16
set_option maxRecDepth 20000 in
theorem d_274_0 : decode (js_b 274) 0 = .ok (.aload 5, 2) := by decide +kernel
set_option maxRecDepth 20000 in
theorem d_274_2 : decode (js_b 274) 2 = .ok (.iconst 0, 1) := by decide +kernel
set_option maxRecDepth 20000 in
theorem d_274_3 : decode (js_b 274) 3 = .ok (.aload_n 0, 1) := by decide +kernel
set_option maxRecDepth 20000 in
theorem d_274_4 : decode (js_b 274) 4 = .ok (.iload_n 1, 1) := by decide +kernel
set_option maxRecDepth 20000 in
theorem d_274_5 : decode (js_b 274) 5 = .ok (.iload_n 2, 1) := by decide +kernel
set_option maxRecDepth 20000 in
theorem d_274_6 : decode (js_b 274) 6 = .ok (.iload_n 3, 1) := by decide +kernel
set_option maxRecDepth 20000 in
theorem d_274_7 : decode (js_b 274) 7 = .ok (.iload 4, 2) := by decide +kernel
set_option maxRecDepth 20000 in
theorem d_274_9 : decode (js_b 274) 9 = .ok (.invokevirtual 84, 3) := by decide +kernel
set_option maxRecDepth 20000 in
theorem d_274_12 : decode (js_b 274) 12 = .ok (.i2l, 1) := by decide +kernel
set_option maxRecDepth 20000 in
theorem d_274_13 : decode (js_b 274) 13 = .ok (.lastore, 1) := by decide +kernel
set_option maxRecDepth 20000 in
theorem d_274_14 : decode (js_b 274) 14 = .ok (.goto 23, 3) := by decide +kernel
set_option maxRecDepth 20000 in
theorem d_274_17 : decode (js_b 274) 17 = .ok (.astore 6, 2) := by decide +kernel
set_option maxRecDepth 20000 in
theorem d_274_19 : decode (js_b 274) 19 = .ok (.iconst 1, 1) := by decide +kernel
set_option maxRecDepth 20000 in
theorem d_274_20 : decode (js_b 274) 20 = .ok (.ireturn, 1) := by decide +kernel
set_option maxRecDepth 20000 in
theorem d_274_21 : decode (js_b 274) 21 = .ok (.astore 6, 2) := by decide +kernel
set_option maxRecDepth 20000 in
theorem d_274_23 : decode (js_b 274) 23 = .ok (.iconst 2, 1) := by decide +kernel
set_option maxRecDepth 20000 in
theorem d_274_24 : decode (js_b 274) 24 = .ok (.ireturn, 1) := by decide +kernel
set_option maxRecDepth 20000 in
theorem d_274_25 : decode (js_b 274) 25 = .ok (.astore 6, 2) := by decide +kernel
set_option maxRecDepth 20000 in
theorem d_274_27 : decode (js_b 274) 27 = .ok (.iconst 3, 1) := by decide +kernel
set_option maxRecDepth 20000 in
theorem d_274_28 : decode (js_b 274) 28 = .ok (.ireturn, 1) := by decide +kernel
set_option maxRecDepth 20000 in
theorem d_274_29 : decode (js_b 274) 29 = .ok (.astore 6, 2) := by decide +kernel
set_option maxRecDepth 20000 in
theorem d_274_31 : decode (js_b 274) 31 = .ok (.iconst 4, 1) := by decide +kernel
set_option maxRecDepth 20000 in
theorem d_274_32 : decode (js_b 274) 32 = .ok (.ireturn, 1) := by decide +kernel
set_option maxRecDepth 20000 in
theorem d_274_33 : decode (js_b 274) 33 = .ok (.astore 6, 2) := by decide +kernel
set_option maxRecDepth 20000 in
theorem d_274_35 : decode (js_b 274) 35 = .ok (.iconst 5, 1) := by decide +kernel
set_option maxRecDepth 20000 in
theorem d_274_36 : decode (js_b 274) 36 = .ok (.ireturn, 1) := by decide +kernel
set_option maxRecDepth 20000 in
theorem d_274_37 : decode (js_b 274) 37 = .ok (.iconst 0, 1) := by decide +kernel
set_option maxRecDepth 20000 in
theorem d_274_38 : decode (js_b 274) 38 = .ok (.ireturn, 1) := by decide +kernel
theorem ki_274_14 : js_OkG 274 14 (o_go 37) := js_St.okG (st_goto (by decide) d_274_14) (fun _ _ _ _ _ => rfl)
theorem ki_274_13 : js_OkG 274 13 (o_sL 102 14) := js_St.okG (st_sL d_274_13) (fun _ _ _ _ _ => rfl)
theorem ki_274_12 : js_OkG 274 12 (o_i2l 13) := js_St.okG (st_i2l d_274_12) (fun _ _ _ _ _ => rfl)
theorem ki_274_9 : js_OkG 274 9 (o_hI 90 5 8 [("java/util/NoSuchElementException", 17), ("java/lang/IndexOutOfBoundsException", 21), ("java/lang/IllegalArgumentException", 25), ("java/lang/IllegalStateException", 29), ("java/lang/UnsupportedOperationException", 33)] 12) := og_hI (site_V kk_274_90 (by decide) kw_929 kw_930 kw_931 (fun t ht => by cases ht; exact Or.inl ⟨_, rfl, rfl⟩) d_274_9) rfl rfl ⟨⟨by decide +kernel, by decide, rfl, rfl⟩, kw_692, kn_447, by decide +kernel, ⟨⟨by decide +kernel, by decide, rfl, rfl⟩, kw_704, kn_519, by decide +kernel, ⟨⟨by decide +kernel, by decide, rfl, rfl⟩, kw_673, kn_535, by decide +kernel, ⟨⟨by decide +kernel, by decide, rfl, rfl⟩, kw_674, kn_551, by decide +kernel, ⟨⟨by decide +kernel, by decide, rfl, rfl⟩, kw_838, kn_856, by decide +kernel, trivial⟩⟩⟩⟩⟩
theorem ki_274_7 : js_OkG 274 7 (o_il 4 9) := js_St.okG (st_iload d_274_7) (fun _ _ _ _ _ => rfl)
theorem ki_274_6 : js_OkG 274 6 (o_il 3 7) := js_St.okG (st_iloadn rfl d_274_6) (fun _ _ _ _ _ => rfl)
theorem ki_274_5 : js_OkG 274 5 (o_il 2 6) := js_St.okG (st_iloadn rfl d_274_5) (fun _ _ _ _ _ => rfl)
theorem ki_274_4 : js_OkG 274 4 (o_il 1 5) := js_St.okG (st_iloadn rfl d_274_4) (fun _ _ _ _ _ => rfl)
theorem ki_274_3 : js_OkG 274 3 (o_al 0 4) := js_St.okG (st_aloadn rfl d_274_3) (fun _ _ _ _ _ => rfl)
theorem ki_274_2 : js_OkG 274 2 (o_ic 0 3) := js_St.okG (st_iconst rfl d_274_2) (fun _ _ _ _ _ => rfl)
theorem ki_274_0 : js_OkG 274 0 (o_al 5 2) := js_St.okG (st_aload d_274_0) (fun _ _ _ _ _ => rfl)
theorem ki_274_31 : js_OkG 274 31 (o_ic 4 32) := js_St.okG (st_iconst rfl d_274_31) (fun _ _ _ _ _ => rfl)
theorem ki_274_29 : js_OkG 274 29 (o_aj 6 31) := og_aj2 rfl rfl (Nat.le_of_ble_eq_true rfl) d_274_29
theorem ki_274_28 : js_OkG 274 28 (o_rI) := og_rI d_274_28
theorem ki_274_27 : js_OkG 274 27 (o_ic 3 28) := js_St.okG (st_iconst rfl d_274_27) (fun _ _ _ _ _ => rfl)
theorem ki_274_25 : js_OkG 274 25 (o_aj 6 27) := og_aj2 rfl rfl (Nat.le_of_ble_eq_true rfl) d_274_25
theorem ki_274_24 : js_OkG 274 24 (o_rI) := og_rI d_274_24
theorem ki_274_23 : js_OkG 274 23 (o_ic 2 24) := js_St.okG (st_iconst rfl d_274_23) (fun _ _ _ _ _ => rfl)
theorem ki_274_21 : js_OkG 274 21 (o_aj 6 23) := og_aj2 rfl rfl (Nat.le_of_ble_eq_true rfl) d_274_21
theorem ki_274_20 : js_OkG 274 20 (o_rI) := og_rI d_274_20
theorem ki_274_19 : js_OkG 274 19 (o_ic 1 20) := js_St.okG (st_iconst rfl d_274_19) (fun _ _ _ _ _ => rfl)
theorem ki_274_17 : js_OkG 274 17 (o_aj 6 19) := og_aj2 rfl rfl (Nat.le_of_ble_eq_true rfl) d_274_17
theorem ki_274_38 : js_OkG 274 38 (o_rI) := og_rI d_274_38
theorem ki_274_37 : js_OkG 274 37 (o_ic 0 38) := js_St.okG (st_iconst rfl d_274_37) (fun _ _ _ _ _ => rfl)
theorem ki_274_36 : js_OkG 274 36 (o_rI) := og_rI d_274_36
theorem ki_274_35 : js_OkG 274 35 (o_ic 5 36) := js_St.okG (st_iconst rfl d_274_35) (fun _ _ _ _ _ => rfl)
theorem ki_274_33 : js_OkG 274 33 (o_aj 6 35) := og_aj2 rfl rfl (Nat.le_of_ble_eq_true rfl) d_274_33
theorem ki_274_32 : js_OkG 274 32 (o_rI) := og_rI d_274_32
set_option maxRecDepth 20000 in
theorem d_275_0 : decode (js_b 275) 0 = .ok (.aload 4, 2) := by decide +kernel
set_option maxRecDepth 20000 in
theorem d_275_2 : decode (js_b 275) 2 = .ok (.iconst 0, 1) := by decide +kernel
set_option maxRecDepth 20000 in
theorem d_275_3 : decode (js_b 275) 3 = .ok (.aload_n 0, 1) := by decide +kernel
set_option maxRecDepth 20000 in
theorem d_275_4 : decode (js_b 275) 4 = .ok (.iload_n 1, 1) := by decide +kernel
set_option maxRecDepth 20000 in
theorem d_275_5 : decode (js_b 275) 5 = .ok (.iload_n 2, 1) := by decide +kernel
set_option maxRecDepth 20000 in
theorem d_275_6 : decode (js_b 275) 6 = .ok (.iload_n 3, 1) := by decide +kernel
set_option maxRecDepth 20000 in
theorem d_275_7 : decode (js_b 275) 7 = .ok (.invokevirtual 88, 3) := by decide +kernel
set_option maxRecDepth 20000 in
theorem d_275_10 : decode (js_b 275) 10 = .ok (.i2l, 1) := by decide +kernel
set_option maxRecDepth 20000 in
theorem d_275_11 : decode (js_b 275) 11 = .ok (.lastore, 1) := by decide +kernel
set_option maxRecDepth 20000 in
theorem d_275_12 : decode (js_b 275) 12 = .ok (.goto 19, 3) := by decide +kernel
set_option maxRecDepth 20000 in
theorem d_275_15 : decode (js_b 275) 15 = .ok (.astore 5, 2) := by decide +kernel
set_option maxRecDepth 20000 in
theorem d_275_17 : decode (js_b 275) 17 = .ok (.iconst 1, 1) := by decide +kernel
set_option maxRecDepth 20000 in
theorem d_275_18 : decode (js_b 275) 18 = .ok (.ireturn, 1) := by decide +kernel
set_option maxRecDepth 20000 in
theorem d_275_19 : decode (js_b 275) 19 = .ok (.astore 5, 2) := by decide +kernel
set_option maxRecDepth 20000 in
theorem d_275_21 : decode (js_b 275) 21 = .ok (.iconst 2, 1) := by decide +kernel
set_option maxRecDepth 20000 in
theorem d_275_22 : decode (js_b 275) 22 = .ok (.ireturn, 1) := by decide +kernel
set_option maxRecDepth 20000 in
theorem d_275_23 : decode (js_b 275) 23 = .ok (.astore 5, 2) := by decide +kernel
set_option maxRecDepth 20000 in
theorem d_275_25 : decode (js_b 275) 25 = .ok (.iconst 3, 1) := by decide +kernel
set_option maxRecDepth 20000 in
theorem d_275_26 : decode (js_b 275) 26 = .ok (.ireturn, 1) := by decide +kernel
set_option maxRecDepth 20000 in
theorem d_275_27 : decode (js_b 275) 27 = .ok (.astore 5, 2) := by decide +kernel
set_option maxRecDepth 20000 in
theorem d_275_29 : decode (js_b 275) 29 = .ok (.iconst 4, 1) := by decide +kernel
set_option maxRecDepth 20000 in
theorem d_275_30 : decode (js_b 275) 30 = .ok (.ireturn, 1) := by decide +kernel
set_option maxRecDepth 20000 in
theorem d_275_31 : decode (js_b 275) 31 = .ok (.iconst 0, 1) := by decide +kernel
set_option maxRecDepth 20000 in
theorem d_275_32 : decode (js_b 275) 32 = .ok (.ireturn, 1) := by decide +kernel
theorem ki_275_15 : js_OkG 275 15 (o_aj 5 17) := og_aj2 rfl rfl (Nat.le_of_ble_eq_true rfl) d_275_15
theorem ki_275_12 : js_OkG 275 12 (o_go 31) := js_St.okG (st_goto (by decide) d_275_12) (fun _ _ _ _ _ => rfl)
theorem ki_275_11 : js_OkG 275 11 (o_sL 102 12) := js_St.okG (st_sL d_275_11) (fun _ _ _ _ _ => rfl)
theorem ki_275_10 : js_OkG 275 10 (o_i2l 11) := js_St.okG (st_i2l d_275_10) (fun _ _ _ _ _ => rfl)
theorem ki_275_7 : js_OkG 275 7 (o_hI 91 4 8 [("java/util/NoSuchElementException", 15), ("java/lang/IndexOutOfBoundsException", 19), ("java/lang/IllegalStateException", 23), ("java/lang/UnsupportedOperationException", 27)] 10) := og_hI (site_V kk_275_91 (by decide) kw_942 kw_943 kw_944 (fun t ht => by cases ht; exact Or.inl ⟨_, rfl, rfl⟩) d_275_7) rfl rfl ⟨⟨by decide +kernel, by decide, rfl, rfl⟩, kw_692, kn_447, by decide +kernel, ⟨⟨by decide +kernel, by decide, rfl, rfl⟩, kw_704, kn_519, by decide +kernel, ⟨⟨by decide +kernel, by decide, rfl, rfl⟩, kw_674, kn_551, by decide +kernel, ⟨⟨by decide +kernel, by decide, rfl, rfl⟩, kw_838, kn_856, by decide +kernel, trivial⟩⟩⟩⟩
theorem ki_275_6 : js_OkG 275 6 (o_il 3 7) := js_St.okG (st_iloadn rfl d_275_6) (fun _ _ _ _ _ => rfl)
theorem ki_275_5 : js_OkG 275 5 (o_il 2 6) := js_St.okG (st_iloadn rfl d_275_5) (fun _ _ _ _ _ => rfl)
theorem ki_275_4 : js_OkG 275 4 (o_il 1 5) := js_St.okG (st_iloadn rfl d_275_4) (fun _ _ _ _ _ => rfl)
theorem ki_275_3 : js_OkG 275 3 (o_al 0 4) := js_St.okG (st_aloadn rfl d_275_3) (fun _ _ _ _ _ => rfl)
theorem ki_275_2 : js_OkG 275 2 (o_ic 0 3) := js_St.okG (st_iconst rfl d_275_2) (fun _ _ _ _ _ => rfl)
theorem ki_275_0 : js_OkG 275 0 (o_al 4 2) := js_St.okG (st_aload d_275_0) (fun _ _ _ _ _ => rfl)
theorem ki_275_31 : js_OkG 275 31 (o_ic 0 32) := js_St.okG (st_iconst rfl d_275_31) (fun _ _ _ _ _ => rfl)
theorem ki_275_30 : js_OkG 275 30 (o_rI) := og_rI d_275_30
theorem ki_275_29 : js_OkG 275 29 (o_ic 4 30) := js_St.okG (st_iconst rfl d_275_29) (fun _ _ _ _ _ => rfl)
theorem ki_275_27 : js_OkG 275 27 (o_aj 5 29) := og_aj2 rfl rfl (Nat.le_of_ble_eq_true rfl) d_275_27
theorem ki_275_26 : js_OkG 275 26 (o_rI) := og_rI d_275_26
theorem ki_275_25 : js_OkG 275 25 (o_ic 3 26) := js_St.okG (st_iconst rfl d_275_25) (fun _ _ _ _ _ => rfl)
theorem ki_275_23 : js_OkG 275 23 (o_aj 5 25) := og_aj2 rfl rfl (Nat.le_of_ble_eq_true rfl) d_275_23
theorem ki_275_22 : js_OkG 275 22 (o_rI) := og_rI d_275_22
theorem ki_275_21 : js_OkG 275 21 (o_ic 2 22) := js_St.okG (st_iconst rfl d_275_21) (fun _ _ _ _ _ => rfl)
theorem ki_275_19 : js_OkG 275 19 (o_aj 5 21) := og_aj2 rfl rfl (Nat.le_of_ble_eq_true rfl) d_275_19
theorem ki_275_18 : js_OkG 275 18 (o_rI) := og_rI d_275_18
theorem ki_275_17 : js_OkG 275 17 (o_ic 1 18) := js_St.okG (st_iconst rfl d_275_17) (fun _ _ _ _ _ => rfl)
theorem ki_275_32 : js_OkG 275 32 (o_rI) := og_rI d_275_32
set_option maxRecDepth 20000 in
theorem d_276_0 : decode (js_b 276) 0 = .ok (.aload_n 3, 1) := by decide +kernel
set_option maxRecDepth 20000 in
theorem d_276_1 : decode (js_b 276) 1 = .ok (.iconst 0, 1) := by decide +kernel
set_option maxRecDepth 20000 in
theorem d_276_2 : decode (js_b 276) 2 = .ok (.aload_n 0, 1) := by decide +kernel
set_option maxRecDepth 20000 in
theorem d_276_3 : decode (js_b 276) 3 = .ok (.iload_n 1, 1) := by decide +kernel
set_option maxRecDepth 20000 in
theorem d_276_4 : decode (js_b 276) 4 = .ok (.iload_n 2, 1) := by decide +kernel
set_option maxRecDepth 20000 in
theorem d_276_5 : decode (js_b 276) 5 = .ok (.invokevirtual 91, 3) := by decide +kernel
set_option maxRecDepth 20000 in
theorem d_276_8 : decode (js_b 276) 8 = .ok (.i2l, 1) := by decide +kernel
set_option maxRecDepth 20000 in
theorem d_276_9 : decode (js_b 276) 9 = .ok (.lastore, 1) := by decide +kernel
set_option maxRecDepth 20000 in
theorem d_276_10 : decode (js_b 276) 10 = .ok (.goto 15, 3) := by decide +kernel
set_option maxRecDepth 20000 in
theorem d_276_13 : decode (js_b 276) 13 = .ok (.astore 4, 2) := by decide +kernel
set_option maxRecDepth 20000 in
theorem d_276_15 : decode (js_b 276) 15 = .ok (.iconst 1, 1) := by decide +kernel
set_option maxRecDepth 20000 in
theorem d_276_16 : decode (js_b 276) 16 = .ok (.ireturn, 1) := by decide +kernel
set_option maxRecDepth 20000 in
theorem d_276_17 : decode (js_b 276) 17 = .ok (.astore 4, 2) := by decide +kernel
set_option maxRecDepth 20000 in
theorem d_276_19 : decode (js_b 276) 19 = .ok (.iconst 2, 1) := by decide +kernel
set_option maxRecDepth 20000 in
theorem d_276_20 : decode (js_b 276) 20 = .ok (.ireturn, 1) := by decide +kernel
set_option maxRecDepth 20000 in
theorem d_276_21 : decode (js_b 276) 21 = .ok (.astore 4, 2) := by decide +kernel
set_option maxRecDepth 20000 in
theorem d_276_23 : decode (js_b 276) 23 = .ok (.iconst 3, 1) := by decide +kernel
set_option maxRecDepth 20000 in
theorem d_276_24 : decode (js_b 276) 24 = .ok (.ireturn, 1) := by decide +kernel
set_option maxRecDepth 20000 in
theorem d_276_25 : decode (js_b 276) 25 = .ok (.iconst 0, 1) := by decide +kernel
set_option maxRecDepth 20000 in
theorem d_276_26 : decode (js_b 276) 26 = .ok (.ireturn, 1) := by decide +kernel
theorem ki_276_15 : js_OkG 276 15 (o_ic 1 16) := js_St.okG (st_iconst rfl d_276_15) (fun _ _ _ _ _ => rfl)
theorem ki_276_13 : js_OkG 276 13 (o_aj 4 15) := og_aj2 rfl rfl (Nat.le_of_ble_eq_true rfl) d_276_13
theorem ki_276_10 : js_OkG 276 10 (o_go 25) := js_St.okG (st_goto (by decide) d_276_10) (fun _ _ _ _ _ => rfl)
theorem ki_276_9 : js_OkG 276 9 (o_sL 102 10) := js_St.okG (st_sL d_276_9) (fun _ _ _ _ _ => rfl)
theorem ki_276_8 : js_OkG 276 8 (o_i2l 9) := js_St.okG (st_i2l d_276_8) (fun _ _ _ _ _ => rfl)
theorem ki_276_5 : js_OkG 276 5 (o_hI 92 3 8 [("java/lang/IndexOutOfBoundsException", 13), ("java/lang/UnsupportedOperationException", 17), ("java/util/NoSuchElementException", 21)] 8) := og_hI (site_V kk_276_92 (by decide) kw_950 kw_951 kw_952 (fun t ht => by cases ht; exact Or.inl ⟨_, rfl, rfl⟩) d_276_5) rfl rfl ⟨⟨by decide +kernel, by decide, rfl, rfl⟩, kw_704, kn_519, by decide +kernel, ⟨⟨by decide +kernel, by decide, rfl, rfl⟩, kw_838, kn_856, by decide +kernel, ⟨⟨by decide +kernel, by decide, rfl, rfl⟩, kw_692, kn_447, by decide +kernel, trivial⟩⟩⟩
theorem ki_276_4 : js_OkG 276 4 (o_il 2 5) := js_St.okG (st_iloadn rfl d_276_4) (fun _ _ _ _ _ => rfl)
theorem ki_276_3 : js_OkG 276 3 (o_il 1 4) := js_St.okG (st_iloadn rfl d_276_3) (fun _ _ _ _ _ => rfl)
theorem ki_276_2 : js_OkG 276 2 (o_al 0 3) := js_St.okG (st_aloadn rfl d_276_2) (fun _ _ _ _ _ => rfl)
theorem ki_276_1 : js_OkG 276 1 (o_ic 0 2) := js_St.okG (st_iconst rfl d_276_1) (fun _ _ _ _ _ => rfl)
theorem ki_276_0 : js_OkG 276 0 (o_al 3 1) := js_St.okG (st_aloadn rfl d_276_0) (fun _ _ _ _ _ => rfl)
theorem ki_276_26 : js_OkG 276 26 (o_rI) := og_rI d_276_26
theorem ki_276_25 : js_OkG 276 25 (o_ic 0 26) := js_St.okG (st_iconst rfl d_276_25) (fun _ _ _ _ _ => rfl)
theorem ki_276_24 : js_OkG 276 24 (o_rI) := og_rI d_276_24
theorem ki_276_23 : js_OkG 276 23 (o_ic 3 24) := js_St.okG (st_iconst rfl d_276_23) (fun _ _ _ _ _ => rfl)
theorem ki_276_21 : js_OkG 276 21 (o_aj 4 23) := og_aj2 rfl rfl (Nat.le_of_ble_eq_true rfl) d_276_21
theorem ki_276_20 : js_OkG 276 20 (o_rI) := og_rI d_276_20
theorem ki_276_19 : js_OkG 276 19 (o_ic 2 20) := js_St.okG (st_iconst rfl d_276_19) (fun _ _ _ _ _ => rfl)
theorem ki_276_17 : js_OkG 276 17 (o_aj 4 19) := og_aj2 rfl rfl (Nat.le_of_ble_eq_true rfl) d_276_17
theorem ki_276_16 : js_OkG 276 16 (o_rI) := og_rI d_276_16
set_option maxRecDepth 20000 in
theorem d_277_0 : decode (js_b 277) 0 = .ok (.aload 4, 2) := by decide +kernel
set_option maxRecDepth 20000 in
theorem d_277_2 : decode (js_b 277) 2 = .ok (.iconst 0, 1) := by decide +kernel
set_option maxRecDepth 20000 in
theorem d_277_3 : decode (js_b 277) 3 = .ok (.aload_n 0, 1) := by decide +kernel
set_option maxRecDepth 20000 in
theorem d_277_4 : decode (js_b 277) 4 = .ok (.iload_n 1, 1) := by decide +kernel
set_option maxRecDepth 20000 in
theorem d_277_5 : decode (js_b 277) 5 = .ok (.iload_n 2, 1) := by decide +kernel
set_option maxRecDepth 20000 in
theorem d_277_6 : decode (js_b 277) 6 = .ok (.iload_n 3, 1) := by decide +kernel
set_option maxRecDepth 20000 in
theorem d_277_7 : decode (js_b 277) 7 = .ok (.invokevirtual 94, 3) := by decide +kernel
set_option maxRecDepth 20000 in
theorem d_277_10 : decode (js_b 277) 10 = .ok (.i2l, 1) := by decide +kernel
set_option maxRecDepth 20000 in
theorem d_277_11 : decode (js_b 277) 11 = .ok (.lastore, 1) := by decide +kernel
set_option maxRecDepth 20000 in
theorem d_277_12 : decode (js_b 277) 12 = .ok (.goto 15, 3) := by decide +kernel
set_option maxRecDepth 20000 in
theorem d_277_15 : decode (js_b 277) 15 = .ok (.astore 5, 2) := by decide +kernel
set_option maxRecDepth 20000 in
theorem d_277_17 : decode (js_b 277) 17 = .ok (.iconst 1, 1) := by decide +kernel
set_option maxRecDepth 20000 in
theorem d_277_18 : decode (js_b 277) 18 = .ok (.ireturn, 1) := by decide +kernel
set_option maxRecDepth 20000 in
theorem d_277_19 : decode (js_b 277) 19 = .ok (.astore 5, 2) := by decide +kernel
set_option maxRecDepth 20000 in
theorem d_277_21 : decode (js_b 277) 21 = .ok (.iconst 2, 1) := by decide +kernel
set_option maxRecDepth 20000 in
theorem d_277_22 : decode (js_b 277) 22 = .ok (.ireturn, 1) := by decide +kernel
set_option maxRecDepth 20000 in
theorem d_277_23 : decode (js_b 277) 23 = .ok (.astore 5, 2) := by decide +kernel
set_option maxRecDepth 20000 in
theorem d_277_25 : decode (js_b 277) 25 = .ok (.iconst 3, 1) := by decide +kernel
set_option maxRecDepth 20000 in
theorem d_277_26 : decode (js_b 277) 26 = .ok (.ireturn, 1) := by decide +kernel
set_option maxRecDepth 20000 in
theorem d_277_27 : decode (js_b 277) 27 = .ok (.iconst 0, 1) := by decide +kernel
set_option maxRecDepth 20000 in
theorem d_277_28 : decode (js_b 277) 28 = .ok (.ireturn, 1) := by decide +kernel
theorem ki_277_15 : js_OkG 277 15 (o_aj 5 17) := og_aj2 rfl rfl (Nat.le_of_ble_eq_true rfl) d_277_15
theorem ki_277_12 : js_OkG 277 12 (o_go 27) := js_St.okG (st_goto (by decide) d_277_12) (fun _ _ _ _ _ => rfl)
theorem ki_277_11 : js_OkG 277 11 (o_sL 102 12) := js_St.okG (st_sL d_277_11) (fun _ _ _ _ _ => rfl)
theorem ki_277_10 : js_OkG 277 10 (o_i2l 11) := js_St.okG (st_i2l d_277_10) (fun _ _ _ _ _ => rfl)
theorem ki_277_7 : js_OkG 277 7 (o_hI 93 4 8 [("java/lang/IndexOutOfBoundsException", 15), ("java/lang/UnsupportedOperationException", 19), ("java/util/NoSuchElementException", 23)] 10) := og_hI (site_V kk_277_93 (by decide) kw_957 kw_958 kw_959 (fun t ht => by cases ht; exact Or.inl ⟨_, rfl, rfl⟩) d_277_7) rfl rfl ⟨⟨by decide +kernel, by decide, rfl, rfl⟩, kw_704, kn_519, by decide +kernel, ⟨⟨by decide +kernel, by decide, rfl, rfl⟩, kw_838, kn_856, by decide +kernel, ⟨⟨by decide +kernel, by decide, rfl, rfl⟩, kw_692, kn_447, by decide +kernel, trivial⟩⟩⟩
theorem ki_277_6 : js_OkG 277 6 (o_il 3 7) := js_St.okG (st_iloadn rfl d_277_6) (fun _ _ _ _ _ => rfl)
theorem ki_277_5 : js_OkG 277 5 (o_il 2 6) := js_St.okG (st_iloadn rfl d_277_5) (fun _ _ _ _ _ => rfl)
theorem ki_277_4 : js_OkG 277 4 (o_il 1 5) := js_St.okG (st_iloadn rfl d_277_4) (fun _ _ _ _ _ => rfl)
theorem ki_277_3 : js_OkG 277 3 (o_al 0 4) := js_St.okG (st_aloadn rfl d_277_3) (fun _ _ _ _ _ => rfl)
theorem ki_277_2 : js_OkG 277 2 (o_ic 0 3) := js_St.okG (st_iconst rfl d_277_2) (fun _ _ _ _ _ => rfl)
theorem ki_277_0 : js_OkG 277 0 (o_al 4 2) := js_St.okG (st_aload d_277_0) (fun _ _ _ _ _ => rfl)
theorem ki_277_28 : js_OkG 277 28 (o_rI) := og_rI d_277_28
theorem ki_277_27 : js_OkG 277 27 (o_ic 0 28) := js_St.okG (st_iconst rfl d_277_27) (fun _ _ _ _ _ => rfl)
theorem ki_277_26 : js_OkG 277 26 (o_rI) := og_rI d_277_26
theorem ki_277_25 : js_OkG 277 25 (o_ic 3 26) := js_St.okG (st_iconst rfl d_277_25) (fun _ _ _ _ _ => rfl)
theorem ki_277_23 : js_OkG 277 23 (o_aj 5 25) := og_aj2 rfl rfl (Nat.le_of_ble_eq_true rfl) d_277_23
theorem ki_277_22 : js_OkG 277 22 (o_rI) := og_rI d_277_22
theorem ki_277_21 : js_OkG 277 21 (o_ic 2 22) := js_St.okG (st_iconst rfl d_277_21) (fun _ _ _ _ _ => rfl)
theorem ki_277_19 : js_OkG 277 19 (o_aj 5 21) := og_aj2 rfl rfl (Nat.le_of_ble_eq_true rfl) d_277_19
theorem ki_277_18 : js_OkG 277 18 (o_rI) := og_rI d_277_18
theorem ki_277_17 : js_OkG 277 17 (o_ic 1 18) := js_St.okG (st_iconst rfl d_277_17) (fun _ _ _ _ _ => rfl)
set_option maxRecDepth 20000 in
theorem d_278_0 : decode (js_b 278) 0 = .ok (.aload_n 2, 1) := by decide +kernel
set_option maxRecDepth 20000 in
theorem d_278_1 : decode (js_b 278) 1 = .ok (.iconst 0, 1) := by decide +kernel
set_option maxRecDepth 20000 in
theorem d_278_2 : decode (js_b 278) 2 = .ok (.aload_n 0, 1) := by decide +kernel
set_option maxRecDepth 20000 in
theorem d_278_3 : decode (js_b 278) 3 = .ok (.iload_n 1, 1) := by decide +kernel
set_option maxRecDepth 20000 in
theorem d_278_4 : decode (js_b 278) 4 = .ok (.invokevirtual 97, 3) := by decide +kernel
set_option maxRecDepth 20000 in
theorem d_278_7 : decode (js_b 278) 7 = .ok (.i2l, 1) := by decide +kernel
set_option maxRecDepth 20000 in
theorem d_278_8 : decode (js_b 278) 8 = .ok (.lastore, 1) := by decide +kernel
set_option maxRecDepth 20000 in
theorem d_278_9 : decode (js_b 278) 9 = .ok (.goto 6, 3) := by decide +kernel
set_option maxRecDepth 20000 in
theorem d_278_12 : decode (js_b 278) 12 = .ok (.astore_n 3, 1) := by decide +kernel
set_option maxRecDepth 20000 in
theorem d_278_13 : decode (js_b 278) 13 = .ok (.iconst 1, 1) := by decide +kernel
set_option maxRecDepth 20000 in
theorem d_278_14 : decode (js_b 278) 14 = .ok (.ireturn, 1) := by decide +kernel
set_option maxRecDepth 20000 in
theorem d_278_15 : decode (js_b 278) 15 = .ok (.iconst 0, 1) := by decide +kernel
set_option maxRecDepth 20000 in
theorem d_278_16 : decode (js_b 278) 16 = .ok (.ireturn, 1) := by decide +kernel
theorem ki_278_15 : js_OkG 278 15 (o_ic 0 16) := js_St.okG (st_iconst rfl d_278_15) (fun _ _ _ _ _ => rfl)
theorem ki_278_14 : js_OkG 278 14 (o_rI) := og_rI d_278_14
theorem ki_278_13 : js_OkG 278 13 (o_ic 1 14) := js_St.okG (st_iconst rfl d_278_13) (fun _ _ _ _ _ => rfl)
theorem ki_278_12 : js_OkG 278 12 (o_aj 3 13) := og_aj1 rfl rfl rfl (Nat.le_of_ble_eq_true rfl) d_278_12
theorem ki_278_9 : js_OkG 278 9 (o_go 15) := js_St.okG (st_goto (by decide) d_278_9) (fun _ _ _ _ _ => rfl)
theorem ki_278_8 : js_OkG 278 8 (o_sL 102 9) := js_St.okG (st_sL d_278_8) (fun _ _ _ _ _ => rfl)
theorem ki_278_7 : js_OkG 278 7 (o_i2l 8) := js_St.okG (st_i2l d_278_7) (fun _ _ _ _ _ => rfl)
theorem ki_278_4 : js_OkG 278 4 (o_hI 96 2 8 [("java/util/NoSuchElementException", 12)] 7) := og_hI (site_V kk_278_96 (by decide) kw_964 kw_965 kw_966 (fun t ht => by cases ht; exact Or.inl ⟨_, rfl, rfl⟩) d_278_4) rfl rfl ⟨⟨by decide +kernel, by decide, rfl, rfl⟩, kw_692, kn_447, by decide +kernel, trivial⟩
theorem ki_278_3 : js_OkG 278 3 (o_il 1 4) := js_St.okG (st_iloadn rfl d_278_3) (fun _ _ _ _ _ => rfl)
theorem ki_278_2 : js_OkG 278 2 (o_al 0 3) := js_St.okG (st_aloadn rfl d_278_2) (fun _ _ _ _ _ => rfl)
theorem ki_278_1 : js_OkG 278 1 (o_ic 0 2) := js_St.okG (st_iconst rfl d_278_1) (fun _ _ _ _ _ => rfl)
theorem ki_278_0 : js_OkG 278 0 (o_al 2 1) := js_St.okG (st_aloadn rfl d_278_0) (fun _ _ _ _ _ => rfl)
theorem ki_278_16 : js_OkG 278 16 (o_rI) := og_rI d_278_16
set_option maxRecDepth 20000 in
theorem d_279_0 : decode (js_b 279) 0 = .ok (.aload_n 2, 1) := by decide +kernel
set_option maxRecDepth 20000 in
theorem d_279_1 : decode (js_b 279) 1 = .ok (.iconst 0, 1) := by decide +kernel
set_option maxRecDepth 20000 in
theorem d_279_2 : decode (js_b 279) 2 = .ok (.aload_n 0, 1) := by decide +kernel
set_option maxRecDepth 20000 in
theorem d_279_3 : decode (js_b 279) 3 = .ok (.iload_n 1, 1) := by decide +kernel
set_option maxRecDepth 20000 in
theorem d_279_4 : decode (js_b 279) 4 = .ok (.invokevirtual 100, 3) := by decide +kernel
set_option maxRecDepth 20000 in
theorem d_279_7 : decode (js_b 279) 7 = .ok (.lastore, 1) := by decide +kernel
set_option maxRecDepth 20000 in
theorem d_279_8 : decode (js_b 279) 8 = .ok (.goto 6, 3) := by decide +kernel
set_option maxRecDepth 20000 in
theorem d_279_11 : decode (js_b 279) 11 = .ok (.astore_n 3, 1) := by decide +kernel
set_option maxRecDepth 20000 in
theorem d_279_12 : decode (js_b 279) 12 = .ok (.iconst 1, 1) := by decide +kernel
set_option maxRecDepth 20000 in
theorem d_279_13 : decode (js_b 279) 13 = .ok (.ireturn, 1) := by decide +kernel
set_option maxRecDepth 20000 in
theorem d_279_14 : decode (js_b 279) 14 = .ok (.iconst 0, 1) := by decide +kernel
set_option maxRecDepth 20000 in
theorem d_279_15 : decode (js_b 279) 15 = .ok (.ireturn, 1) := by decide +kernel
theorem ki_279_15 : js_OkG 279 15 (o_rI) := og_rI d_279_15
theorem ki_279_14 : js_OkG 279 14 (o_ic 0 15) := js_St.okG (st_iconst rfl d_279_14) (fun _ _ _ _ _ => rfl)
theorem ki_279_13 : js_OkG 279 13 (o_rI) := og_rI d_279_13
theorem ki_279_12 : js_OkG 279 12 (o_ic 1 13) := js_St.okG (st_iconst rfl d_279_12) (fun _ _ _ _ _ => rfl)
theorem ki_279_11 : js_OkG 279 11 (o_aj 3 12) := og_aj1 rfl rfl rfl (Nat.le_of_ble_eq_true rfl) d_279_11
theorem ki_279_8 : js_OkG 279 8 (o_go 14) := js_St.okG (st_goto (by decide) d_279_8) (fun _ _ _ _ _ => rfl)
theorem ki_279_7 : js_OkG 279 7 (o_sL 102 8) := js_St.okG (st_sL d_279_7) (fun _ _ _ _ _ => rfl)
theorem ki_279_4 : js_OkG 279 4 (o_hL 97 2 8 [("java/util/NoSuchElementException", 11)] 7) := og_hL (site_V kk_279_97 (by decide) kw_976 kw_969 kw_970 (fun t ht => by cases ht; exact Or.inl ⟨_, rfl, rfl⟩) d_279_4) rfl rfl ⟨⟨by decide +kernel, by decide, rfl, rfl⟩, kw_692, kn_447, by decide +kernel, trivial⟩
theorem ki_279_3 : js_OkG 279 3 (o_il 1 4) := js_St.okG (st_iloadn rfl d_279_3) (fun _ _ _ _ _ => rfl)
theorem ki_279_2 : js_OkG 279 2 (o_al 0 3) := js_St.okG (st_aloadn rfl d_279_2) (fun _ _ _ _ _ => rfl)
theorem ki_279_1 : js_OkG 279 1 (o_ic 0 2) := js_St.okG (st_iconst rfl d_279_1) (fun _ _ _ _ _ => rfl)
theorem ki_279_0 : js_OkG 279 0 (o_al 2 1) := js_St.okG (st_aloadn rfl d_279_0) (fun _ _ _ _ _ => rfl)
set_option maxRecDepth 20000 in
theorem d_280_0 : decode (js_b 280) 0 = .ok (.aload_n 1, 1) := by decide +kernel
set_option maxRecDepth 20000 in
theorem d_280_1 : decode (js_b 280) 1 = .ok (.iconst 0, 1) := by decide +kernel
set_option maxRecDepth 20000 in
theorem d_280_2 : decode (js_b 280) 2 = .ok (.aload_n 0, 1) := by decide +kernel
set_option maxRecDepth 20000 in
theorem d_280_3 : decode (js_b 280) 3 = .ok (.invokevirtual 104, 3) := by decide +kernel
set_option maxRecDepth 20000 in
theorem d_280_6 : decode (js_b 280) 6 = .ok (.i2l, 1) := by decide +kernel
set_option maxRecDepth 20000 in
theorem d_280_7 : decode (js_b 280) 7 = .ok (.lastore, 1) := by decide +kernel
set_option maxRecDepth 20000 in
theorem d_280_8 : decode (js_b 280) 8 = .ok (.goto 6, 3) := by decide +kernel
set_option maxRecDepth 20000 in
theorem d_280_11 : decode (js_b 280) 11 = .ok (.astore_n 2, 1) := by decide +kernel
set_option maxRecDepth 20000 in
theorem d_280_12 : decode (js_b 280) 12 = .ok (.iconst 1, 1) := by decide +kernel
set_option maxRecDepth 20000 in
theorem d_280_13 : decode (js_b 280) 13 = .ok (.ireturn, 1) := by decide +kernel
set_option maxRecDepth 20000 in
theorem d_280_14 : decode (js_b 280) 14 = .ok (.iconst 0, 1) := by decide +kernel
set_option maxRecDepth 20000 in
theorem d_280_15 : decode (js_b 280) 15 = .ok (.ireturn, 1) := by decide +kernel
theorem ki_280_15 : js_OkG 280 15 (o_rI) := og_rI d_280_15
theorem ki_280_14 : js_OkG 280 14 (o_ic 0 15) := js_St.okG (st_iconst rfl d_280_14) (fun _ _ _ _ _ => rfl)
theorem ki_280_13 : js_OkG 280 13 (o_rI) := og_rI d_280_13
theorem ki_280_12 : js_OkG 280 12 (o_ic 1 13) := js_St.okG (st_iconst rfl d_280_12) (fun _ _ _ _ _ => rfl)
theorem ki_280_11 : js_OkG 280 11 (o_aj 2 12) := og_aj1 rfl rfl rfl (Nat.le_of_ble_eq_true rfl) d_280_11
theorem ki_280_8 : js_OkG 280 8 (o_go 14) := js_St.okG (st_goto (by decide) d_280_8) (fun _ _ _ _ _ => rfl)
theorem ki_280_7 : js_OkG 280 7 (o_sL 102 8) := js_St.okG (st_sL d_280_7) (fun _ _ _ _ _ => rfl)
theorem ki_280_6 : js_OkG 280 6 (o_i2l 7) := js_St.okG (st_i2l d_280_6) (fun _ _ _ _ _ => rfl)
theorem ki_280_3 : js_OkG 280 3 (o_hI 98 1 8 [("java/util/NoSuchElementException", 11)] 6) := og_hI (site_V kk_280_98 (by decide) kw_980 kw_981 kw_982 (fun t ht => by cases ht; exact Or.inl ⟨_, rfl, rfl⟩) d_280_3) rfl rfl ⟨⟨by decide +kernel, by decide, rfl, rfl⟩, kw_692, kn_447, by decide +kernel, trivial⟩
theorem ki_280_2 : js_OkG 280 2 (o_al 0 3) := js_St.okG (st_aloadn rfl d_280_2) (fun _ _ _ _ _ => rfl)
theorem ki_280_1 : js_OkG 280 1 (o_ic 0 2) := js_St.okG (st_iconst rfl d_280_1) (fun _ _ _ _ _ => rfl)
theorem ki_280_0 : js_OkG 280 0 (o_al 1 1) := js_St.okG (st_aloadn rfl d_280_0) (fun _ _ _ _ _ => rfl)
set_option maxRecDepth 20000 in
theorem d_281_0 : decode (js_b 281) 0 = .ok (.aload_n 1, 1) := by decide +kernel
set_option maxRecDepth 20000 in
theorem d_281_1 : decode (js_b 281) 1 = .ok (.iconst 0, 1) := by decide +kernel
set_option maxRecDepth 20000 in
theorem d_281_2 : decode (js_b 281) 2 = .ok (.aload_n 0, 1) := by decide +kernel
set_option maxRecDepth 20000 in
theorem d_281_3 : decode (js_b 281) 3 = .ok (.invokevirtual 108, 3) := by decide +kernel
set_option maxRecDepth 20000 in
theorem d_281_6 : decode (js_b 281) 6 = .ok (.f2d, 1) := by decide +kernel
set_option maxRecDepth 20000 in
theorem d_281_7 : decode (js_b 281) 7 = .ok (.dastore, 1) := by decide +kernel
set_option maxRecDepth 20000 in
theorem d_281_8 : decode (js_b 281) 8 = .ok (.goto 6, 3) := by decide +kernel
set_option maxRecDepth 20000 in
theorem d_281_11 : decode (js_b 281) 11 = .ok (.astore_n 2, 1) := by decide +kernel
set_option maxRecDepth 20000 in
theorem d_281_12 : decode (js_b 281) 12 = .ok (.iconst 1, 1) := by decide +kernel
set_option maxRecDepth 20000 in
theorem d_281_13 : decode (js_b 281) 13 = .ok (.ireturn, 1) := by decide +kernel
set_option maxRecDepth 20000 in
theorem d_281_14 : decode (js_b 281) 14 = .ok (.iconst 0, 1) := by decide +kernel
set_option maxRecDepth 20000 in
theorem d_281_15 : decode (js_b 281) 15 = .ok (.ireturn, 1) := by decide +kernel
theorem ki_281_15 : js_OkG 281 15 (o_rI) := og_rI d_281_15
theorem ki_281_14 : js_OkG 281 14 (o_ic 0 15) := js_St.okG (st_iconst rfl d_281_14) (fun _ _ _ _ _ => rfl)
theorem ki_281_13 : js_OkG 281 13 (o_rI) := og_rI d_281_13
theorem ki_281_12 : js_OkG 281 12 (o_ic 1 13) := js_St.okG (st_iconst rfl d_281_12) (fun _ _ _ _ _ => rfl)
theorem ki_281_11 : js_OkG 281 11 (o_aj 2 12) := og_aj1 rfl rfl rfl (Nat.le_of_ble_eq_true rfl) d_281_11
theorem ki_281_8 : js_OkG 281 8 (o_go 14) := js_St.okG (st_goto (by decide) d_281_8) (fun _ _ _ _ _ => rfl)
theorem ki_281_7 : js_OkG 281 7 (o_sD 103 8) := js_St.okG (st_sD d_281_7) (fun _ _ _ _ _ => rfl)
theorem ki_281_6 : js_OkG 281 6 (o_f2d 7) := js_St.okG (st_f2d d_281_6) (fun _ _ _ _ _ => rfl)
theorem ki_281_3 : js_OkG 281 3 (o_hF 99 1 8 [("java/lang/ArithmeticException", 11)] 6) := og_hF (site_V kk_281_99 (by decide) kw_1008 kw_1009 kw_1010 (fun t ht => by cases ht; exact Or.inl ⟨_, rfl, rfl⟩) d_281_3) rfl rfl ⟨⟨by decide +kernel, by decide, rfl, rfl⟩, kw_994, kn_1006, by decide +kernel, trivial⟩
theorem ki_281_2 : js_OkG 281 2 (o_al 0 3) := js_St.okG (st_aloadn rfl d_281_2) (fun _ _ _ _ _ => rfl)
theorem ki_281_1 : js_OkG 281 1 (o_ic 0 2) := js_St.okG (st_iconst rfl d_281_1) (fun _ _ _ _ _ => rfl)
theorem ki_281_0 : js_OkG 281 0 (o_al 1 1) := js_St.okG (st_aloadn rfl d_281_0) (fun _ _ _ _ _ => rfl)
set_option maxRecDepth 20000 in
theorem d_282_0 : decode (js_b 282) 0 = .ok (.aload_n 1, 1) := by decide +kernel
set_option maxRecDepth 20000 in
theorem d_282_1 : decode (js_b 282) 1 = .ok (.iconst 0, 1) := by decide +kernel
set_option maxRecDepth 20000 in
theorem d_282_2 : decode (js_b 282) 2 = .ok (.aload_n 0, 1) := by decide +kernel
set_option maxRecDepth 20000 in
theorem d_282_3 : decode (js_b 282) 3 = .ok (.invokevirtual 114, 3) := by decide +kernel
set_option maxRecDepth 20000 in
theorem d_282_6 : decode (js_b 282) 6 = .ok (.i2l, 1) := by decide +kernel
set_option maxRecDepth 20000 in
theorem d_282_7 : decode (js_b 282) 7 = .ok (.lastore, 1) := by decide +kernel
set_option maxRecDepth 20000 in
theorem d_282_8 : decode (js_b 282) 8 = .ok (.goto 6, 3) := by decide +kernel
set_option maxRecDepth 20000 in
theorem d_282_11 : decode (js_b 282) 11 = .ok (.astore_n 2, 1) := by decide +kernel
set_option maxRecDepth 20000 in
theorem d_282_12 : decode (js_b 282) 12 = .ok (.iconst 1, 1) := by decide +kernel
set_option maxRecDepth 20000 in
theorem d_282_13 : decode (js_b 282) 13 = .ok (.ireturn, 1) := by decide +kernel
set_option maxRecDepth 20000 in
theorem d_282_14 : decode (js_b 282) 14 = .ok (.iconst 0, 1) := by decide +kernel
set_option maxRecDepth 20000 in
theorem d_282_15 : decode (js_b 282) 15 = .ok (.ireturn, 1) := by decide +kernel
theorem ki_282_15 : js_OkG 282 15 (o_rI) := og_rI d_282_15
theorem ki_282_14 : js_OkG 282 14 (o_ic 0 15) := js_St.okG (st_iconst rfl d_282_14) (fun _ _ _ _ _ => rfl)
theorem ki_282_13 : js_OkG 282 13 (o_rI) := og_rI d_282_13
theorem ki_282_12 : js_OkG 282 12 (o_ic 1 13) := js_St.okG (st_iconst rfl d_282_12) (fun _ _ _ _ _ => rfl)
theorem ki_282_11 : js_OkG 282 11 (o_aj 2 12) := og_aj1 rfl rfl rfl (Nat.le_of_ble_eq_true rfl) d_282_11
theorem ki_282_8 : js_OkG 282 8 (o_go 14) := js_St.okG (st_goto (by decide) d_282_8) (fun _ _ _ _ _ => rfl)
theorem ki_282_7 : js_OkG 282 7 (o_sL 102 8) := js_St.okG (st_sL d_282_7) (fun _ _ _ _ _ => rfl)
theorem ki_282_6 : js_OkG 282 6 (o_i2l 7) := js_St.okG (st_i2l d_282_6) (fun _ _ _ _ _ => rfl)
theorem ki_282_3 : js_OkG 282 3 (o_hI 100 1 8 [("java/lang/ArithmeticException", 11)] 6) := og_hI (site_V kk_282_100 (by decide) kw_1018 kw_1019 kw_1020 (fun t ht => by cases ht; exact Or.inl ⟨_, rfl, rfl⟩) d_282_3) rfl rfl ⟨⟨by decide +kernel, by decide, rfl, rfl⟩, kw_994, kn_1006, by decide +kernel, trivial⟩
theorem ki_282_2 : js_OkG 282 2 (o_al 0 3) := js_St.okG (st_aloadn rfl d_282_2) (fun _ _ _ _ _ => rfl)
theorem ki_282_1 : js_OkG 282 1 (o_ic 0 2) := js_St.okG (st_iconst rfl d_282_1) (fun _ _ _ _ _ => rfl)
theorem ki_282_0 : js_OkG 282 0 (o_al 1 1) := js_St.okG (st_aloadn rfl d_282_0) (fun _ _ _ _ _ => rfl)
set_option maxRecDepth 20000 in
theorem d_283_0 : decode (js_b 283) 0 = .ok (.aload_n 1, 1) := by decide +kernel
set_option maxRecDepth 20000 in
theorem d_283_1 : decode (js_b 283) 1 = .ok (.iconst 0, 1) := by decide +kernel
set_option maxRecDepth 20000 in
theorem d_283_2 : decode (js_b 283) 2 = .ok (.aload_n 0, 1) := by decide +kernel
set_option maxRecDepth 20000 in
theorem d_283_3 : decode (js_b 283) 3 = .ok (.invokevirtual 117, 3) := by decide +kernel
set_option maxRecDepth 20000 in
theorem d_283_6 : decode (js_b 283) 6 = .ok (.dastore, 1) := by decide +kernel
set_option maxRecDepth 20000 in
theorem d_283_7 : decode (js_b 283) 7 = .ok (.goto 6, 3) := by decide +kernel
set_option maxRecDepth 20000 in
theorem d_283_10 : decode (js_b 283) 10 = .ok (.astore_n 2, 1) := by decide +kernel
set_option maxRecDepth 20000 in
theorem d_283_11 : decode (js_b 283) 11 = .ok (.iconst 1, 1) := by decide +kernel
set_option maxRecDepth 20000 in
theorem d_283_12 : decode (js_b 283) 12 = .ok (.ireturn, 1) := by decide +kernel
set_option maxRecDepth 20000 in
theorem d_283_13 : decode (js_b 283) 13 = .ok (.iconst 0, 1) := by decide +kernel
set_option maxRecDepth 20000 in
theorem d_283_14 : decode (js_b 283) 14 = .ok (.ireturn, 1) := by decide +kernel
theorem ki_283_14 : js_OkG 283 14 (o_rI) := og_rI d_283_14
theorem ki_283_13 : js_OkG 283 13 (o_ic 0 14) := js_St.okG (st_iconst rfl d_283_13) (fun _ _ _ _ _ => rfl)
theorem ki_283_12 : js_OkG 283 12 (o_rI) := og_rI d_283_12
theorem ki_283_11 : js_OkG 283 11 (o_ic 1 12) := js_St.okG (st_iconst rfl d_283_11) (fun _ _ _ _ _ => rfl)
theorem ki_283_10 : js_OkG 283 10 (o_aj 2 11) := og_aj1 rfl rfl rfl (Nat.le_of_ble_eq_true rfl) d_283_10
theorem ki_283_7 : js_OkG 283 7 (o_go 13) := js_St.okG (st_goto (by decide) d_283_7) (fun _ _ _ _ _ => rfl)
theorem ki_283_6 : js_OkG 283 6 (o_sD 103 7) := js_St.okG (st_sD d_283_6) (fun _ _ _ _ _ => rfl)
theorem ki_283_3 : js_OkG 283 3 (o_hD 101 1 8 [("java/lang/ArithmeticException", 10)] 6) := og_hD (site_V kk_283_101 (by decide) kw_1030 kw_1031 kw_1032 (fun t ht => by cases ht; exact Or.inl ⟨_, rfl, rfl⟩) d_283_3) rfl rfl ⟨⟨by decide +kernel, by decide, rfl, rfl⟩, kw_994, kn_1006, by decide +kernel, trivial⟩
theorem ki_283_2 : js_OkG 283 2 (o_al 0 3) := js_St.okG (st_aloadn rfl d_283_2) (fun _ _ _ _ _ => rfl)
theorem ki_283_1 : js_OkG 283 1 (o_ic 0 2) := js_St.okG (st_iconst rfl d_283_1) (fun _ _ _ _ _ => rfl)
theorem ki_283_0 : js_OkG 283 0 (o_al 1 1) := js_St.okG (st_aloadn rfl d_283_0) (fun _ _ _ _ _ => rfl)
set_option maxRecDepth 20000 in
theorem d_284_0 : decode (js_b 284) 0 = .ok (.aload_n 2, 1) := by decide +kernel
set_option maxRecDepth 20000 in
theorem d_284_1 : decode (js_b 284) 1 = .ok (.iconst 0, 1) := by decide +kernel
set_option maxRecDepth 20000 in
theorem d_284_2 : decode (js_b 284) 2 = .ok (.aload_n 0, 1) := by decide +kernel
set_option maxRecDepth 20000 in
theorem d_284_3 : decode (js_b 284) 3 = .ok (.iload_n 1, 1) := by decide +kernel
set_option maxRecDepth 20000 in
theorem d_284_4 : decode (js_b 284) 4 = .ok (.invokevirtual 121, 3) := by decide +kernel
set_option maxRecDepth 20000 in
theorem d_284_7 : decode (js_b 284) 7 = .ok (.i2l, 1) := by decide +kernel
set_option maxRecDepth 20000 in
theorem d_284_8 : decode (js_b 284) 8 = .ok (.lastore, 1) := by decide +kernel
set_option maxRecDepth 20000 in
theorem d_284_9 : decode (js_b 284) 9 = .ok (.goto 6, 3) := by decide +kernel
set_option maxRecDepth 20000 in
theorem d_284_12 : decode (js_b 284) 12 = .ok (.astore_n 3, 1) := by decide +kernel
set_option maxRecDepth 20000 in
theorem d_284_13 : decode (js_b 284) 13 = .ok (.iconst 1, 1) := by decide +kernel
set_option maxRecDepth 20000 in
theorem d_284_14 : decode (js_b 284) 14 = .ok (.ireturn, 1) := by decide +kernel
set_option maxRecDepth 20000 in
theorem d_284_15 : decode (js_b 284) 15 = .ok (.iconst 0, 1) := by decide +kernel
set_option maxRecDepth 20000 in
theorem d_284_16 : decode (js_b 284) 16 = .ok (.ireturn, 1) := by decide +kernel
theorem ki_284_15 : js_OkG 284 15 (o_ic 0 16) := js_St.okG (st_iconst rfl d_284_15) (fun _ _ _ _ _ => rfl)
theorem ki_284_14 : js_OkG 284 14 (o_rI) := og_rI d_284_14
theorem ki_284_13 : js_OkG 284 13 (o_ic 1 14) := js_St.okG (st_iconst rfl d_284_13) (fun _ _ _ _ _ => rfl)
theorem ki_284_12 : js_OkG 284 12 (o_aj 3 13) := og_aj1 rfl rfl rfl (Nat.le_of_ble_eq_true rfl) d_284_12
theorem ki_284_9 : js_OkG 284 9 (o_go 15) := js_St.okG (st_goto (by decide) d_284_9) (fun _ _ _ _ _ => rfl)
theorem ki_284_8 : js_OkG 284 8 (o_sL 102 9) := js_St.okG (st_sL d_284_8) (fun _ _ _ _ _ => rfl)
theorem ki_284_7 : js_OkG 284 7 (o_i2l 8) := js_St.okG (st_i2l d_284_7) (fun _ _ _ _ _ => rfl)
theorem ki_284_4 : js_OkG 284 4 (o_hI 103 2 8 [("java/lang/IndexOutOfBoundsException", 12)] 7) := og_hI (site_V kk_284_103 (by decide) kw_1037 kw_1038 kw_1039 (fun t ht => by cases ht; exact Or.inl ⟨_, rfl, rfl⟩) d_284_4) rfl rfl ⟨⟨by decide +kernel, by decide, rfl, rfl⟩, kw_704, kn_519, by decide +kernel, trivial⟩
theorem ki_284_3 : js_OkG 284 3 (o_il 1 4) := js_St.okG (st_iloadn rfl d_284_3) (fun _ _ _ _ _ => rfl)
theorem ki_284_2 : js_OkG 284 2 (o_al 0 3) := js_St.okG (st_aloadn rfl d_284_2) (fun _ _ _ _ _ => rfl)
theorem ki_284_1 : js_OkG 284 1 (o_ic 0 2) := js_St.okG (st_iconst rfl d_284_1) (fun _ _ _ _ _ => rfl)
theorem ki_284_0 : js_OkG 284 0 (o_al 2 1) := js_St.okG (st_aloadn rfl d_284_0) (fun _ _ _ _ _ => rfl)
theorem ki_284_16 : js_OkG 284 16 (o_rI) := og_rI d_284_16
set_option maxRecDepth 20000 in
theorem d_285_0 : decode (js_b 285) 0 = .ok (.aload_n 2, 1) := by decide +kernel
set_option maxRecDepth 20000 in
theorem d_285_1 : decode (js_b 285) 1 = .ok (.iconst 0, 1) := by decide +kernel
set_option maxRecDepth 20000 in
theorem d_285_2 : decode (js_b 285) 2 = .ok (.aload_n 0, 1) := by decide +kernel
set_option maxRecDepth 20000 in
theorem d_285_3 : decode (js_b 285) 3 = .ok (.iload_n 1, 1) := by decide +kernel
set_option maxRecDepth 20000 in
theorem d_285_4 : decode (js_b 285) 4 = .ok (.invokevirtual 124, 3) := by decide +kernel
set_option maxRecDepth 20000 in
theorem d_285_7 : decode (js_b 285) 7 = .ok (.i2l, 1) := by decide +kernel
set_option maxRecDepth 20000 in
theorem d_285_8 : decode (js_b 285) 8 = .ok (.lastore, 1) := by decide +kernel
set_option maxRecDepth 20000 in
theorem d_285_9 : decode (js_b 285) 9 = .ok (.goto 6, 3) := by decide +kernel
set_option maxRecDepth 20000 in
theorem d_285_12 : decode (js_b 285) 12 = .ok (.astore_n 3, 1) := by decide +kernel
set_option maxRecDepth 20000 in
theorem d_285_13 : decode (js_b 285) 13 = .ok (.iconst 1, 1) := by decide +kernel
set_option maxRecDepth 20000 in
theorem d_285_14 : decode (js_b 285) 14 = .ok (.ireturn, 1) := by decide +kernel
set_option maxRecDepth 20000 in
theorem d_285_15 : decode (js_b 285) 15 = .ok (.iconst 0, 1) := by decide +kernel
set_option maxRecDepth 20000 in
theorem d_285_16 : decode (js_b 285) 16 = .ok (.ireturn, 1) := by decide +kernel
theorem ki_285_15 : js_OkG 285 15 (o_ic 0 16) := js_St.okG (st_iconst rfl d_285_15) (fun _ _ _ _ _ => rfl)
theorem ki_285_14 : js_OkG 285 14 (o_rI) := og_rI d_285_14
theorem ki_285_13 : js_OkG 285 13 (o_ic 1 14) := js_St.okG (st_iconst rfl d_285_13) (fun _ _ _ _ _ => rfl)
theorem ki_285_12 : js_OkG 285 12 (o_aj 3 13) := og_aj1 rfl rfl rfl (Nat.le_of_ble_eq_true rfl) d_285_12
theorem ki_285_9 : js_OkG 285 9 (o_go 15) := js_St.okG (st_goto (by decide) d_285_9) (fun _ _ _ _ _ => rfl)
theorem ki_285_8 : js_OkG 285 8 (o_sL 102 9) := js_St.okG (st_sL d_285_8) (fun _ _ _ _ _ => rfl)
theorem ki_285_7 : js_OkG 285 7 (o_i2l 8) := js_St.okG (st_i2l d_285_7) (fun _ _ _ _ _ => rfl)
theorem ki_285_4 : js_OkG 285 4 (o_hI 104 2 8 [("java/util/NoSuchElementException", 12)] 7) := og_hI (site_V kk_285_104 (by decide) kw_1048 kw_1049 kw_1050 (fun t ht => by cases ht; exact Or.inl ⟨_, rfl, rfl⟩) d_285_4) rfl rfl ⟨⟨by decide +kernel, by decide, rfl, rfl⟩, kw_692, kn_447, by decide +kernel, trivial⟩
theorem ki_285_3 : js_OkG 285 3 (o_il 1 4) := js_St.okG (st_iloadn rfl d_285_3) (fun _ _ _ _ _ => rfl)
theorem ki_285_2 : js_OkG 285 2 (o_al 0 3) := js_St.okG (st_aloadn rfl d_285_2) (fun _ _ _ _ _ => rfl)
theorem ki_285_1 : js_OkG 285 1 (o_ic 0 2) := js_St.okG (st_iconst rfl d_285_1) (fun _ _ _ _ _ => rfl)
theorem ki_285_0 : js_OkG 285 0 (o_al 2 1) := js_St.okG (st_aloadn rfl d_285_0) (fun _ _ _ _ _ => rfl)
theorem ki_285_16 : js_OkG 285 16 (o_rI) := og_rI d_285_16
set_option maxRecDepth 20000 in
theorem d_286_0 : decode (js_b 286) 0 = .ok (.aload_n 2, 1) := by decide +kernel
set_option maxRecDepth 20000 in
theorem d_286_1 : decode (js_b 286) 1 = .ok (.iconst 0, 1) := by decide +kernel
set_option maxRecDepth 20000 in
theorem d_286_2 : decode (js_b 286) 2 = .ok (.aload_n 0, 1) := by decide +kernel
set_option maxRecDepth 20000 in
theorem d_286_3 : decode (js_b 286) 3 = .ok (.iload_n 1, 1) := by decide +kernel
set_option maxRecDepth 20000 in
theorem d_286_4 : decode (js_b 286) 4 = .ok (.invokevirtual 127, 3) := by decide +kernel
set_option maxRecDepth 20000 in
theorem d_286_7 : decode (js_b 286) 7 = .ok (.i2l, 1) := by decide +kernel
set_option maxRecDepth 20000 in
theorem d_286_8 : decode (js_b 286) 8 = .ok (.lastore, 1) := by decide +kernel
set_option maxRecDepth 20000 in
theorem d_286_9 : decode (js_b 286) 9 = .ok (.goto 6, 3) := by decide +kernel
set_option maxRecDepth 20000 in
theorem d_286_12 : decode (js_b 286) 12 = .ok (.astore_n 3, 1) := by decide +kernel
set_option maxRecDepth 20000 in
theorem d_286_13 : decode (js_b 286) 13 = .ok (.iconst 1, 1) := by decide +kernel
set_option maxRecDepth 20000 in
theorem d_286_14 : decode (js_b 286) 14 = .ok (.ireturn, 1) := by decide +kernel
set_option maxRecDepth 20000 in
theorem d_286_15 : decode (js_b 286) 15 = .ok (.iconst 0, 1) := by decide +kernel
set_option maxRecDepth 20000 in
theorem d_286_16 : decode (js_b 286) 16 = .ok (.ireturn, 1) := by decide +kernel
theorem ki_286_15 : js_OkG 286 15 (o_ic 0 16) := js_St.okG (st_iconst rfl d_286_15) (fun _ _ _ _ _ => rfl)
theorem ki_286_14 : js_OkG 286 14 (o_rI) := og_rI d_286_14
theorem ki_286_13 : js_OkG 286 13 (o_ic 1 14) := js_St.okG (st_iconst rfl d_286_13) (fun _ _ _ _ _ => rfl)
theorem ki_286_12 : js_OkG 286 12 (o_aj 3 13) := og_aj1 rfl rfl rfl (Nat.le_of_ble_eq_true rfl) d_286_12
theorem ki_286_9 : js_OkG 286 9 (o_go 15) := js_St.okG (st_goto (by decide) d_286_9) (fun _ _ _ _ _ => rfl)
theorem ki_286_8 : js_OkG 286 8 (o_sL 102 9) := js_St.okG (st_sL d_286_8) (fun _ _ _ _ _ => rfl)
theorem ki_286_7 : js_OkG 286 7 (o_i2l 8) := js_St.okG (st_i2l d_286_7) (fun _ _ _ _ _ => rfl)
theorem ki_286_4 : js_OkG 286 4 (o_hI 105 2 8 [("java/lang/IndexOutOfBoundsException", 12)] 7) := og_hI (site_V kk_286_105 (by decide) kw_1058 kw_1059 kw_1060 (fun t ht => by cases ht; exact Or.inl ⟨_, rfl, rfl⟩) d_286_4) rfl rfl ⟨⟨by decide +kernel, by decide, rfl, rfl⟩, kw_704, kn_519, by decide +kernel, trivial⟩
theorem ki_286_3 : js_OkG 286 3 (o_il 1 4) := js_St.okG (st_iloadn rfl d_286_3) (fun _ _ _ _ _ => rfl)
theorem ki_286_2 : js_OkG 286 2 (o_al 0 3) := js_St.okG (st_aloadn rfl d_286_2) (fun _ _ _ _ _ => rfl)
theorem ki_286_1 : js_OkG 286 1 (o_ic 0 2) := js_St.okG (st_iconst rfl d_286_1) (fun _ _ _ _ _ => rfl)
theorem ki_286_0 : js_OkG 286 0 (o_al 2 1) := js_St.okG (st_aloadn rfl d_286_0) (fun _ _ _ _ _ => rfl)
theorem ki_286_16 : js_OkG 286 16 (o_rI) := og_rI d_286_16
set_option maxRecDepth 20000 in
theorem d_287_0 : decode (js_b 287) 0 = .ok (.aload_n 2, 1) := by decide +kernel
set_option maxRecDepth 20000 in
theorem d_287_1 : decode (js_b 287) 1 = .ok (.iconst 0, 1) := by decide +kernel
set_option maxRecDepth 20000 in
theorem d_287_2 : decode (js_b 287) 2 = .ok (.aload_n 0, 1) := by decide +kernel
set_option maxRecDepth 20000 in
theorem d_287_3 : decode (js_b 287) 3 = .ok (.iload_n 1, 1) := by decide +kernel
set_option maxRecDepth 20000 in
theorem d_287_4 : decode (js_b 287) 4 = .ok (.invokevirtual 130, 3) := by decide +kernel
set_option maxRecDepth 20000 in
theorem d_287_7 : decode (js_b 287) 7 = .ok (.i2l, 1) := by decide +kernel
set_option maxRecDepth 20000 in
theorem d_287_8 : decode (js_b 287) 8 = .ok (.lastore, 1) := by decide +kernel
set_option maxRecDepth 20000 in
theorem d_287_9 : decode (js_b 287) 9 = .ok (.goto 6, 3) := by decide +kernel
set_option maxRecDepth 20000 in
theorem d_287_12 : decode (js_b 287) 12 = .ok (.astore_n 3, 1) := by decide +kernel
set_option maxRecDepth 20000 in
theorem d_287_13 : decode (js_b 287) 13 = .ok (.iconst 1, 1) := by decide +kernel
set_option maxRecDepth 20000 in
theorem d_287_14 : decode (js_b 287) 14 = .ok (.ireturn, 1) := by decide +kernel
set_option maxRecDepth 20000 in
theorem d_287_15 : decode (js_b 287) 15 = .ok (.iconst 0, 1) := by decide +kernel
set_option maxRecDepth 20000 in
theorem d_287_16 : decode (js_b 287) 16 = .ok (.ireturn, 1) := by decide +kernel
theorem ki_287_15 : js_OkG 287 15 (o_ic 0 16) := js_St.okG (st_iconst rfl d_287_15) (fun _ _ _ _ _ => rfl)
theorem ki_287_14 : js_OkG 287 14 (o_rI) := og_rI d_287_14
theorem ki_287_13 : js_OkG 287 13 (o_ic 1 14) := js_St.okG (st_iconst rfl d_287_13) (fun _ _ _ _ _ => rfl)
theorem ki_287_12 : js_OkG 287 12 (o_aj 3 13) := og_aj1 rfl rfl rfl (Nat.le_of_ble_eq_true rfl) d_287_12
theorem ki_287_9 : js_OkG 287 9 (o_go 15) := js_St.okG (st_goto (by decide) d_287_9) (fun _ _ _ _ _ => rfl)
theorem ki_287_8 : js_OkG 287 8 (o_sL 102 9) := js_St.okG (st_sL d_287_8) (fun _ _ _ _ _ => rfl)
theorem ki_287_7 : js_OkG 287 7 (o_i2l 8) := js_St.okG (st_i2l d_287_7) (fun _ _ _ _ _ => rfl)
theorem ki_287_4 : js_OkG 287 4 (o_hI 106 2 8 [("java/lang/IllegalStateException", 12)] 7) := og_hI (site_V kk_287_106 (by decide) kw_1066 kw_1067 kw_1068 (fun t ht => by cases ht; exact Or.inl ⟨_, rfl, rfl⟩) d_287_4) rfl rfl ⟨⟨by decide +kernel, by decide, rfl, rfl⟩, kw_674, kn_551, by decide +kernel, trivial⟩
theorem ki_287_3 : js_OkG 287 3 (o_il 1 4) := js_St.okG (st_iloadn rfl d_287_3) (fun _ _ _ _ _ => rfl)
theorem ki_287_2 : js_OkG 287 2 (o_al 0 3) := js_St.okG (st_aloadn rfl d_287_2) (fun _ _ _ _ _ => rfl)
theorem ki_287_1 : js_OkG 287 1 (o_ic 0 2) := js_St.okG (st_iconst rfl d_287_1) (fun _ _ _ _ _ => rfl)
theorem ki_287_0 : js_OkG 287 0 (o_al 2 1) := js_St.okG (st_aloadn rfl d_287_0) (fun _ _ _ _ _ => rfl)
theorem ki_287_16 : js_OkG 287 16 (o_rI) := og_rI d_287_16
set_option maxRecDepth 20000 in
theorem d_288_0 : decode (js_b 288) 0 = .ok (.aload_n 1, 1) := by decide +kernel
set_option maxRecDepth 20000 in
theorem d_288_1 : decode (js_b 288) 1 = .ok (.iconst 0, 1) := by decide +kernel
set_option maxRecDepth 20000 in
theorem d_288_2 : decode (js_b 288) 2 = .ok (.aload_n 0, 1) := by decide +kernel
set_option maxRecDepth 20000 in
theorem d_288_3 : decode (js_b 288) 3 = .ok (.invokevirtual 134, 3) := by decide +kernel
set_option maxRecDepth 20000 in
theorem d_288_6 : decode (js_b 288) 6 = .ok (.i2l, 1) := by decide +kernel
set_option maxRecDepth 20000 in
theorem d_288_7 : decode (js_b 288) 7 = .ok (.lastore, 1) := by decide +kernel
set_option maxRecDepth 20000 in
theorem d_288_8 : decode (js_b 288) 8 = .ok (.goto 9, 3) := by decide +kernel
set_option maxRecDepth 20000 in
theorem d_288_11 : decode (js_b 288) 11 = .ok (.astore_n 2, 1) := by decide +kernel
set_option maxRecDepth 20000 in
theorem d_288_12 : decode (js_b 288) 12 = .ok (.iconst 1, 1) := by decide +kernel
set_option maxRecDepth 20000 in
theorem d_288_13 : decode (js_b 288) 13 = .ok (.ireturn, 1) := by decide +kernel
set_option maxRecDepth 20000 in
theorem d_288_14 : decode (js_b 288) 14 = .ok (.astore_n 2, 1) := by decide +kernel
set_option maxRecDepth 20000 in
theorem d_288_15 : decode (js_b 288) 15 = .ok (.iconst 2, 1) := by decide +kernel
set_option maxRecDepth 20000 in
theorem d_288_16 : decode (js_b 288) 16 = .ok (.ireturn, 1) := by decide +kernel
set_option maxRecDepth 20000 in
theorem d_288_17 : decode (js_b 288) 17 = .ok (.iconst 0, 1) := by decide +kernel
set_option maxRecDepth 20000 in
theorem d_288_18 : decode (js_b 288) 18 = .ok (.ireturn, 1) := by decide +kernel
theorem ki_288_15 : js_OkG 288 15 (o_ic 2 16) := js_St.okG (st_iconst rfl d_288_15) (fun _ _ _ _ _ => rfl)
theorem ki_288_14 : js_OkG 288 14 (o_aj 2 15) := og_aj1 rfl rfl rfl (Nat.le_of_ble_eq_true rfl) d_288_14
theorem ki_288_13 : js_OkG 288 13 (o_rI) := og_rI d_288_13
theorem ki_288_12 : js_OkG 288 12 (o_ic 1 13) := js_St.okG (st_iconst rfl d_288_12) (fun _ _ _ _ _ => rfl)
theorem ki_288_11 : js_OkG 288 11 (o_aj 2 12) := og_aj1 rfl rfl rfl (Nat.le_of_ble_eq_true rfl) d_288_11
theorem ki_288_8 : js_OkG 288 8 (o_go 17) := js_St.okG (st_goto (by decide) d_288_8) (fun _ _ _ _ _ => rfl)
theorem ki_288_7 : js_OkG 288 7 (o_sL 102 8) := js_St.okG (st_sL d_288_7) (fun _ _ _ _ _ => rfl)
theorem ki_288_6 : js_OkG 288 6 (o_i2l 7) := js_St.okG (st_i2l d_288_6) (fun _ _ _ _ _ => rfl)
theorem ki_288_3 : js_OkG 288 3 (o_hI 107 1 8 [("java/lang/IllegalArgumentException", 11), ("java/lang/UnsupportedOperationException", 14)] 6) := og_hI (site_V kk_288_107 (by decide) kw_1082 kw_1083 kw_1084 (fun t ht => by cases ht; exact Or.inl ⟨_, rfl, rfl⟩) d_288_3) rfl rfl ⟨⟨by decide +kernel, by decide, rfl, rfl⟩, kw_673, kn_535, by decide +kernel, ⟨⟨by decide +kernel, by decide, rfl, rfl⟩, kw_838, kn_856, by decide +kernel, trivial⟩⟩
theorem ki_288_2 : js_OkG 288 2 (o_al 0 3) := js_St.okG (st_aloadn rfl d_288_2) (fun _ _ _ _ _ => rfl)
theorem ki_288_1 : js_OkG 288 1 (o_ic 0 2) := js_St.okG (st_iconst rfl d_288_1) (fun _ _ _ _ _ => rfl)
theorem ki_288_0 : js_OkG 288 0 (o_al 1 1) := js_St.okG (st_aloadn rfl d_288_0) (fun _ _ _ _ _ => rfl)
theorem ki_288_18 : js_OkG 288 18 (o_rI) := og_rI d_288_18
theorem ki_288_17 : js_OkG 288 17 (o_ic 0 18) := js_St.okG (st_iconst rfl d_288_17) (fun _ _ _ _ _ => rfl)
theorem ki_288_16 : js_OkG 288 16 (o_rI) := og_rI d_288_16
set_option maxRecDepth 20000 in
theorem d_289_0 : decode (js_b 289) 0 = .ok (.aload_n 1, 1) := by decide +kernel
set_option maxRecDepth 20000 in
theorem d_289_1 : decode (js_b 289) 1 = .ok (.iconst 0, 1) := by decide +kernel
set_option maxRecDepth 20000 in
theorem d_289_2 : decode (js_b 289) 2 = .ok (.aload_n 0, 1) := by decide +kernel
set_option maxRecDepth 20000 in
theorem d_289_3 : decode (js_b 289) 3 = .ok (.invokevirtual 137, 3) := by decide +kernel
set_option maxRecDepth 20000 in
theorem d_289_6 : decode (js_b 289) 6 = .ok (.i2l, 1) := by decide +kernel
set_option maxRecDepth 20000 in
theorem d_289_7 : decode (js_b 289) 7 = .ok (.lastore, 1) := by decide +kernel
set_option maxRecDepth 20000 in
theorem d_289_8 : decode (js_b 289) 8 = .ok (.goto 6, 3) := by decide +kernel
set_option maxRecDepth 20000 in
theorem d_289_11 : decode (js_b 289) 11 = .ok (.astore_n 2, 1) := by decide +kernel
set_option maxRecDepth 20000 in
theorem d_289_12 : decode (js_b 289) 12 = .ok (.iconst 1, 1) := by decide +kernel
set_option maxRecDepth 20000 in
theorem d_289_13 : decode (js_b 289) 13 = .ok (.ireturn, 1) := by decide +kernel
set_option maxRecDepth 20000 in
theorem d_289_14 : decode (js_b 289) 14 = .ok (.iconst 0, 1) := by decide +kernel
set_option maxRecDepth 20000 in
theorem d_289_15 : decode (js_b 289) 15 = .ok (.ireturn, 1) := by decide +kernel
theorem ki_289_15 : js_OkG 289 15 (o_rI) := og_rI d_289_15
theorem ki_289_14 : js_OkG 289 14 (o_ic 0 15) := js_St.okG (st_iconst rfl d_289_14) (fun _ _ _ _ _ => rfl)
theorem ki_289_13 : js_OkG 289 13 (o_rI) := og_rI d_289_13
theorem ki_289_12 : js_OkG 289 12 (o_ic 1 13) := js_St.okG (st_iconst rfl d_289_12) (fun _ _ _ _ _ => rfl)
theorem ki_289_11 : js_OkG 289 11 (o_aj 2 12) := og_aj1 rfl rfl rfl (Nat.le_of_ble_eq_true rfl) d_289_11
theorem ki_289_8 : js_OkG 289 8 (o_go 14) := js_St.okG (st_goto (by decide) d_289_8) (fun _ _ _ _ _ => rfl)
theorem ki_289_7 : js_OkG 289 7 (o_sL 102 8) := js_St.okG (st_sL d_289_7) (fun _ _ _ _ _ => rfl)
theorem ki_289_6 : js_OkG 289 6 (o_i2l 7) := js_St.okG (st_i2l d_289_6) (fun _ _ _ _ _ => rfl)
theorem ki_289_3 : js_OkG 289 3 (o_hI 108 1 8 [("java/util/NoSuchElementException", 11)] 6) := og_hI (site_V kk_289_108 (by decide) kw_1190 kw_1191 kw_1192 (fun t ht => by cases ht; exact Or.inl ⟨_, rfl, rfl⟩) d_289_3) rfl rfl ⟨⟨by decide +kernel, by decide, rfl, rfl⟩, kw_692, kn_447, by decide +kernel, trivial⟩
theorem ki_289_2 : js_OkG 289 2 (o_al 0 3) := js_St.okG (st_aloadn rfl d_289_2) (fun _ _ _ _ _ => rfl)
theorem ki_289_1 : js_OkG 289 1 (o_ic 0 2) := js_St.okG (st_iconst rfl d_289_1) (fun _ _ _ _ _ => rfl)
theorem ki_289_0 : js_OkG 289 0 (o_al 1 1) := js_St.okG (st_aloadn rfl d_289_0) (fun _ _ _ _ _ => rfl)
set_option maxRecDepth 20000 in
theorem d_290_0 : decode (js_b 290) 0 = .ok (.aload_n 1, 1) := by decide +kernel
set_option maxRecDepth 20000 in
theorem d_290_1 : decode (js_b 290) 1 = .ok (.iconst 0, 1) := by decide +kernel
set_option maxRecDepth 20000 in
theorem d_290_2 : decode (js_b 290) 2 = .ok (.aload_n 0, 1) := by decide +kernel
set_option maxRecDepth 20000 in
theorem d_290_3 : decode (js_b 290) 3 = .ok (.invokevirtual 140, 3) := by decide +kernel
set_option maxRecDepth 20000 in
theorem d_290_6 : decode (js_b 290) 6 = .ok (.i2l, 1) := by decide +kernel
set_option maxRecDepth 20000 in
theorem d_290_7 : decode (js_b 290) 7 = .ok (.lastore, 1) := by decide +kernel
set_option maxRecDepth 20000 in
theorem d_290_8 : decode (js_b 290) 8 = .ok (.goto 6, 3) := by decide +kernel
set_option maxRecDepth 20000 in
theorem d_290_11 : decode (js_b 290) 11 = .ok (.astore_n 2, 1) := by decide +kernel
set_option maxRecDepth 20000 in
theorem d_290_12 : decode (js_b 290) 12 = .ok (.iconst 1, 1) := by decide +kernel
set_option maxRecDepth 20000 in
theorem d_290_13 : decode (js_b 290) 13 = .ok (.ireturn, 1) := by decide +kernel
set_option maxRecDepth 20000 in
theorem d_290_14 : decode (js_b 290) 14 = .ok (.iconst 0, 1) := by decide +kernel
set_option maxRecDepth 20000 in
theorem d_290_15 : decode (js_b 290) 15 = .ok (.ireturn, 1) := by decide +kernel
theorem ki_290_15 : js_OkG 290 15 (o_rI) := og_rI d_290_15
theorem ki_290_14 : js_OkG 290 14 (o_ic 0 15) := js_St.okG (st_iconst rfl d_290_14) (fun _ _ _ _ _ => rfl)
theorem ki_290_13 : js_OkG 290 13 (o_rI) := og_rI d_290_13
theorem ki_290_12 : js_OkG 290 12 (o_ic 1 13) := js_St.okG (st_iconst rfl d_290_12) (fun _ _ _ _ _ => rfl)
theorem ki_290_11 : js_OkG 290 11 (o_aj 2 12) := og_aj1 rfl rfl rfl (Nat.le_of_ble_eq_true rfl) d_290_11
theorem ki_290_8 : js_OkG 290 8 (o_go 14) := js_St.okG (st_goto (by decide) d_290_8) (fun _ _ _ _ _ => rfl)
theorem ki_290_7 : js_OkG 290 7 (o_sL 102 8) := js_St.okG (st_sL d_290_7) (fun _ _ _ _ _ => rfl)
theorem ki_290_6 : js_OkG 290 6 (o_i2l 7) := js_St.okG (st_i2l d_290_6) (fun _ _ _ _ _ => rfl)
theorem ki_290_3 : js_OkG 290 3 (o_hI 109 1 8 [("java/util/NoSuchElementException", 11)] 6) := og_hI (site_V kk_290_109 (by decide) kw_1198 kw_1199 kw_1200 (fun t ht => by cases ht; exact Or.inl ⟨_, rfl, rfl⟩) d_290_3) rfl rfl ⟨⟨by decide +kernel, by decide, rfl, rfl⟩, kw_692, kn_447, by decide +kernel, trivial⟩
theorem ki_290_2 : js_OkG 290 2 (o_al 0 3) := js_St.okG (st_aloadn rfl d_290_2) (fun _ _ _ _ _ => rfl)
theorem ki_290_1 : js_OkG 290 1 (o_ic 0 2) := js_St.okG (st_iconst rfl d_290_1) (fun _ _ _ _ _ => rfl)
theorem ki_290_0 : js_OkG 290 0 (o_al 1 1) := js_St.okG (st_aloadn rfl d_290_0) (fun _ _ _ _ _ => rfl)
set_option maxRecDepth 20000 in
theorem d_291_0 : decode (js_b 291) 0 = .ok (.aload_n 1, 1) := by decide +kernel
set_option maxRecDepth 20000 in
theorem d_291_1 : decode (js_b 291) 1 = .ok (.iconst 0, 1) := by decide +kernel
set_option maxRecDepth 20000 in
theorem d_291_2 : decode (js_b 291) 2 = .ok (.aload_n 0, 1) := by decide +kernel
set_option maxRecDepth 20000 in
theorem d_291_3 : decode (js_b 291) 3 = .ok (.invokevirtual 143, 3) := by decide +kernel
set_option maxRecDepth 20000 in
theorem d_291_6 : decode (js_b 291) 6 = .ok (.i2l, 1) := by decide +kernel
set_option maxRecDepth 20000 in
theorem d_291_7 : decode (js_b 291) 7 = .ok (.lastore, 1) := by decide +kernel
set_option maxRecDepth 20000 in
theorem d_291_8 : decode (js_b 291) 8 = .ok (.goto 6, 3) := by decide +kernel
set_option maxRecDepth 20000 in
theorem d_291_11 : decode (js_b 291) 11 = .ok (.astore_n 2, 1) := by decide +kernel
set_option maxRecDepth 20000 in
theorem d_291_12 : decode (js_b 291) 12 = .ok (.iconst 1, 1) := by decide +kernel
set_option maxRecDepth 20000 in
theorem d_291_13 : decode (js_b 291) 13 = .ok (.ireturn, 1) := by decide +kernel
set_option maxRecDepth 20000 in
theorem d_291_14 : decode (js_b 291) 14 = .ok (.iconst 0, 1) := by decide +kernel
set_option maxRecDepth 20000 in
theorem d_291_15 : decode (js_b 291) 15 = .ok (.ireturn, 1) := by decide +kernel
theorem ki_291_15 : js_OkG 291 15 (o_rI) := og_rI d_291_15
theorem ki_291_14 : js_OkG 291 14 (o_ic 0 15) := js_St.okG (st_iconst rfl d_291_14) (fun _ _ _ _ _ => rfl)
theorem ki_291_13 : js_OkG 291 13 (o_rI) := og_rI d_291_13
theorem ki_291_12 : js_OkG 291 12 (o_ic 1 13) := js_St.okG (st_iconst rfl d_291_12) (fun _ _ _ _ _ => rfl)
theorem ki_291_11 : js_OkG 291 11 (o_aj 2 12) := og_aj1 rfl rfl rfl (Nat.le_of_ble_eq_true rfl) d_291_11
theorem ki_291_8 : js_OkG 291 8 (o_go 14) := js_St.okG (st_goto (by decide) d_291_8) (fun _ _ _ _ _ => rfl)
theorem ki_291_7 : js_OkG 291 7 (o_sL 102 8) := js_St.okG (st_sL d_291_7) (fun _ _ _ _ _ => rfl)
theorem ki_291_6 : js_OkG 291 6 (o_i2l 7) := js_St.okG (st_i2l d_291_6) (fun _ _ _ _ _ => rfl)
theorem ki_291_3 : js_OkG 291 3 (o_hI 110 1 8 [("java/lang/IllegalStateException", 11)] 6) := og_hI (site_V kk_291_110 (by decide) kw_1206 kw_1207 kw_1208 (fun t ht => by cases ht; exact Or.inl ⟨_, rfl, rfl⟩) d_291_3) rfl rfl ⟨⟨by decide +kernel, by decide, rfl, rfl⟩, kw_674, kn_551, by decide +kernel, trivial⟩
theorem ki_291_2 : js_OkG 291 2 (o_al 0 3) := js_St.okG (st_aloadn rfl d_291_2) (fun _ _ _ _ _ => rfl)
theorem ki_291_1 : js_OkG 291 1 (o_ic 0 2) := js_St.okG (st_iconst rfl d_291_1) (fun _ _ _ _ _ => rfl)
theorem ki_291_0 : js_OkG 291 0 (o_al 1 1) := js_St.okG (st_aloadn rfl d_291_0) (fun _ _ _ _ _ => rfl)
set_option maxRecDepth 20000 in
theorem d_292_0 : decode (js_b 292) 0 = .ok (.aload_n 1, 1) := by decide +kernel
set_option maxRecDepth 20000 in
theorem d_292_1 : decode (js_b 292) 1 = .ok (.iconst 0, 1) := by decide +kernel
set_option maxRecDepth 20000 in
theorem d_292_2 : decode (js_b 292) 2 = .ok (.aload_n 0, 1) := by decide +kernel
set_option maxRecDepth 20000 in
theorem d_292_3 : decode (js_b 292) 3 = .ok (.invokevirtual 146, 3) := by decide +kernel
set_option maxRecDepth 20000 in
theorem d_292_6 : decode (js_b 292) 6 = .ok (.i2l, 1) := by decide +kernel
set_option maxRecDepth 20000 in
theorem d_292_7 : decode (js_b 292) 7 = .ok (.lastore, 1) := by decide +kernel
set_option maxRecDepth 20000 in
theorem d_292_8 : decode (js_b 292) 8 = .ok (.goto 6, 3) := by decide +kernel
set_option maxRecDepth 20000 in
theorem d_292_11 : decode (js_b 292) 11 = .ok (.astore_n 2, 1) := by decide +kernel
set_option maxRecDepth 20000 in
theorem d_292_12 : decode (js_b 292) 12 = .ok (.iconst 1, 1) := by decide +kernel
set_option maxRecDepth 20000 in
theorem d_292_13 : decode (js_b 292) 13 = .ok (.ireturn, 1) := by decide +kernel
set_option maxRecDepth 20000 in
theorem d_292_14 : decode (js_b 292) 14 = .ok (.iconst 0, 1) := by decide +kernel
set_option maxRecDepth 20000 in
theorem d_292_15 : decode (js_b 292) 15 = .ok (.ireturn, 1) := by decide +kernel
theorem ki_292_15 : js_OkG 292 15 (o_rI) := og_rI d_292_15
theorem ki_292_14 : js_OkG 292 14 (o_ic 0 15) := js_St.okG (st_iconst rfl d_292_14) (fun _ _ _ _ _ => rfl)
theorem ki_292_13 : js_OkG 292 13 (o_rI) := og_rI d_292_13
theorem ki_292_12 : js_OkG 292 12 (o_ic 1 13) := js_St.okG (st_iconst rfl d_292_12) (fun _ _ _ _ _ => rfl)
theorem ki_292_11 : js_OkG 292 11 (o_aj 2 12) := og_aj1 rfl rfl rfl (Nat.le_of_ble_eq_true rfl) d_292_11
theorem ki_292_8 : js_OkG 292 8 (o_go 14) := js_St.okG (st_goto (by decide) d_292_8) (fun _ _ _ _ _ => rfl)
theorem ki_292_7 : js_OkG 292 7 (o_sL 102 8) := js_St.okG (st_sL d_292_7) (fun _ _ _ _ _ => rfl)
theorem ki_292_6 : js_OkG 292 6 (o_i2l 7) := js_St.okG (st_i2l d_292_6) (fun _ _ _ _ _ => rfl)
theorem ki_292_3 : js_OkG 292 3 (o_hI 113 1 8 [("java/lang/IllegalStateException", 11)] 6) := og_hI (site_V kk_292_113 (by decide) kw_1218 kw_1219 kw_1220 (fun t ht => by cases ht; exact Or.inl ⟨_, rfl, rfl⟩) d_292_3) rfl rfl ⟨⟨by decide +kernel, by decide, rfl, rfl⟩, kw_674, kn_551, by decide +kernel, trivial⟩
theorem ki_292_2 : js_OkG 292 2 (o_al 0 3) := js_St.okG (st_aloadn rfl d_292_2) (fun _ _ _ _ _ => rfl)
theorem ki_292_1 : js_OkG 292 1 (o_ic 0 2) := js_St.okG (st_iconst rfl d_292_1) (fun _ _ _ _ _ => rfl)
theorem ki_292_0 : js_OkG 292 0 (o_al 1 1) := js_St.okG (st_aloadn rfl d_292_0) (fun _ _ _ _ _ => rfl)
set_option maxRecDepth 20000 in
theorem d_293_0 : decode (js_b 293) 0 = .ok (.new 8, 3) := by decide +kernel
set_option maxRecDepth 20000 in
theorem d_293_3 : decode (js_b 293) 3 = .ok (.dup, 1) := by decide +kernel
set_option maxRecDepth 20000 in
theorem d_293_4 : decode (js_b 293) 4 = .ok (.invokespecial 149, 3) := by decide +kernel
set_option maxRecDepth 20000 in
theorem d_293_7 : decode (js_b 293) 7 = .ok (.astore_n 1, 1) := by decide +kernel
set_option maxRecDepth 20000 in
theorem d_293_8 : decode (js_b 293) 8 = .ok (.new 150, 3) := by decide +kernel
set_option maxRecDepth 20000 in
theorem d_293_11 : decode (js_b 293) 11 = .ok (.dup, 1) := by decide +kernel
set_option maxRecDepth 20000 in
theorem d_293_12 : decode (js_b 293) 12 = .ok (.invokespecial 152, 3) := by decide +kernel
set_option maxRecDepth 20000 in
theorem d_293_15 : decode (js_b 293) 15 = .ok (.astore_n 2, 1) := by decide +kernel
set_option maxRecDepth 20000 in
theorem d_293_16 : decode (js_b 293) 16 = .ok (.iconst 1, 1) := by decide +kernel
set_option maxRecDepth 20000 in
theorem d_293_17 : decode (js_b 293) 17 = .ok (.newarray .long, 2) := by decide +kernel
set_option maxRecDepth 20000 in
theorem d_293_19 : decode (js_b 293) 19 = .ok (.astore_n 3, 1) := by decide +kernel
set_option maxRecDepth 20000 in
theorem d_293_20 : decode (js_b 293) 20 = .ok (.iconst 1, 1) := by decide +kernel
set_option maxRecDepth 20000 in
theorem d_293_21 : decode (js_b 293) 21 = .ok (.newarray .double, 2) := by decide +kernel
set_option maxRecDepth 20000 in
theorem d_293_23 : decode (js_b 293) 23 = .ok (.astore 4, 2) := by decide +kernel
set_option maxRecDepth 20000 in
theorem d_293_25 : decode (js_b 293) 25 = .ok (.iconst 0, 1) := by decide +kernel
set_option maxRecDepth 20000 in
theorem d_293_26 : decode (js_b 293) 26 = .ok (.istore 5, 2) := by decide +kernel
set_option maxRecDepth 20000 in
theorem d_293_28 : decode (js_b 293) 28 = .ok (.iload 5, 2) := by decide +kernel
set_option maxRecDepth 20000 in
theorem d_293_30 : decode (js_b 293) 30 = .ok (.aload_n 0, 1) := by decide +kernel
set_option maxRecDepth 20000 in
theorem d_293_31 : decode (js_b 293) 31 = .ok (.arraylength, 1) := by decide +kernel
set_option maxRecDepth 20000 in
theorem d_293_32 : decode (js_b 293) 32 = .ok (.bipush 6, 2) := by decide +kernel
set_option maxRecDepth 20000 in
theorem d_293_34 : decode (js_b 293) 34 = .ok (.isub, 1) := by decide +kernel
set_option maxRecDepth 20000 in
theorem d_293_35 : decode (js_b 293) 35 = .ok (.if_icmp .gt 2822, 3) := by decide +kernel
set_option maxRecDepth 20000 in
theorem d_293_38 : decode (js_b 293) 38 = .ok (.aload_n 0, 1) := by decide +kernel
set_option maxRecDepth 20000 in
theorem d_293_39 : decode (js_b 293) 39 = .ok (.iload 5, 2) := by decide +kernel
set_option maxRecDepth 20000 in
theorem d_293_41 : decode (js_b 293) 41 = .ok (.iaload, 1) := by decide +kernel
set_option maxRecDepth 20000 in
theorem d_293_42 : decode (js_b 293) 42 = .ok (.bipush 63, 2) := by decide +kernel
set_option maxRecDepth 20000 in
theorem d_293_44 : decode (js_b 293) 44 = .ok (.iand, 1) := by decide +kernel
set_option maxRecDepth 20000 in
theorem d_293_45 : decode (js_b 293) 45 = .ok (.tableswitch 2806 0 53 #[231, 337, 393, 406, 419, 475, 500, 556, 612, 680, 743, 799, 812, 892, 948, 1016, 1084, 1152, 1165, 1240, 1308, 1322, 1379, 1393, 1407, 1420, 1433, 1446, 1521, 1577, 1645, 1737, 1817, 1885, 1965, 1978, 1991, 2047, 2102, 2146, 2212, 2256, 2321, 2334, 2390, 2446, 2502, 2560, 2604, 2648, 2692, 2736, 2749, 2762], 231) := by decide +kernel
set_option maxRecDepth 20000 in
theorem d_293_276 : decode (js_b 293) 276 = .ok (.aload_n 1, 1) := by decide +kernel
set_option maxRecDepth 20000 in
theorem d_293_277 : decode (js_b 293) 277 = .ok (.aload_n 0, 1) := by decide +kernel
set_option maxRecDepth 20000 in
theorem d_293_278 : decode (js_b 293) 278 = .ok (.iload 5, 2) := by decide +kernel
set_option maxRecDepth 20000 in
theorem d_293_280 : decode (js_b 293) 280 = .ok (.iconst 1, 1) := by decide +kernel
set_option maxRecDepth 20000 in
theorem d_293_281 : decode (js_b 293) 281 = .ok (.iadd, 1) := by decide +kernel
set_option maxRecDepth 20000 in
theorem d_293_282 : decode (js_b 293) 282 = .ok (.iaload, 1) := by decide +kernel
set_option maxRecDepth 20000 in
theorem d_293_283 : decode (js_b 293) 283 = .ok (.i2c, 1) := by decide +kernel
set_option maxRecDepth 20000 in
theorem d_293_284 : decode (js_b 293) 284 = .ok (.aload_n 0, 1) := by decide +kernel
set_option maxRecDepth 20000 in
theorem d_293_285 : decode (js_b 293) 285 = .ok (.iload 5, 2) := by decide +kernel
set_option maxRecDepth 20000 in
theorem d_293_287 : decode (js_b 293) 287 = .ok (.iconst 2, 1) := by decide +kernel
set_option maxRecDepth 20000 in
theorem d_293_288 : decode (js_b 293) 288 = .ok (.iadd, 1) := by decide +kernel
set_option maxRecDepth 20000 in
theorem d_293_289 : decode (js_b 293) 289 = .ok (.iaload, 1) := by decide +kernel
set_option maxRecDepth 20000 in
theorem d_293_290 : decode (js_b 293) 290 = .ok (.aload_n 0, 1) := by decide +kernel
set_option maxRecDepth 20000 in
theorem d_293_291 : decode (js_b 293) 291 = .ok (.iload 5, 2) := by decide +kernel
set_option maxRecDepth 20000 in
theorem d_293_293 : decode (js_b 293) 293 = .ok (.iconst 3, 1) := by decide +kernel
set_option maxRecDepth 20000 in
theorem d_293_294 : decode (js_b 293) 294 = .ok (.iadd, 1) := by decide +kernel
set_option maxRecDepth 20000 in
theorem d_293_295 : decode (js_b 293) 295 = .ok (.iaload, 1) := by decide +kernel
set_option maxRecDepth 20000 in
theorem d_293_296 : decode (js_b 293) 296 = .ok (.aload_n 0, 1) := by decide +kernel
set_option maxRecDepth 20000 in
theorem d_293_297 : decode (js_b 293) 297 = .ok (.iload 5, 2) := by decide +kernel
set_option maxRecDepth 20000 in
theorem d_293_299 : decode (js_b 293) 299 = .ok (.iconst 4, 1) := by decide +kernel
set_option maxRecDepth 20000 in
theorem d_293_300 : decode (js_b 293) 300 = .ok (.iadd, 1) := by decide +kernel
set_option maxRecDepth 20000 in
theorem d_293_301 : decode (js_b 293) 301 = .ok (.iaload, 1) := by decide +kernel
set_option maxRecDepth 20000 in
theorem d_293_302 : decode (js_b 293) 302 = .ok (.aload_n 0, 1) := by decide +kernel
set_option maxRecDepth 20000 in
theorem d_293_303 : decode (js_b 293) 303 = .ok (.iload 5, 2) := by decide +kernel
set_option maxRecDepth 20000 in
theorem d_293_305 : decode (js_b 293) 305 = .ok (.iconst 5, 1) := by decide +kernel
set_option maxRecDepth 20000 in
theorem d_293_306 : decode (js_b 293) 306 = .ok (.iadd, 1) := by decide +kernel
set_option maxRecDepth 20000 in
theorem d_293_307 : decode (js_b 293) 307 = .ok (.iaload, 1) := by decide +kernel
set_option maxRecDepth 20000 in
theorem d_293_308 : decode (js_b 293) 308 = .ok (.aload_n 3, 1) := by decide +kernel
set_option maxRecDepth 20000 in
theorem d_293_309 : decode (js_b 293) 309 = .ok (.invokestatic 153, 3) := by decide +kernel
set_option maxRecDepth 20000 in
theorem d_293_312 : decode (js_b 293) 312 = .ok (.istore 6, 2) := by decide +kernel
set_option maxRecDepth 20000 in
theorem d_293_314 : decode (js_b 293) 314 = .ok (.aload_n 2, 1) := by decide +kernel
set_option maxRecDepth 20000 in
theorem d_293_315 : decode (js_b 293) 315 = .ok (.aload_n 0, 1) := by decide +kernel
set_option maxRecDepth 20000 in
theorem d_293_316 : decode (js_b 293) 316 = .ok (.iload 5, 2) := by decide +kernel
set_option maxRecDepth 20000 in
theorem d_293_318 : decode (js_b 293) 318 = .ok (.iconst 1, 1) := by decide +kernel
set_option maxRecDepth 20000 in
theorem d_293_319 : decode (js_b 293) 319 = .ok (.iadd, 1) := by decide +kernel
set_option maxRecDepth 20000 in
theorem d_293_320 : decode (js_b 293) 320 = .ok (.iaload, 1) := by decide +kernel
set_option maxRecDepth 20000 in
theorem d_293_321 : decode (js_b 293) 321 = .ok (.i2c, 1) := by decide +kernel
set_option maxRecDepth 20000 in
theorem d_293_322 : decode (js_b 293) 322 = .ok (.aload_n 0, 1) := by decide +kernel
set_option maxRecDepth 20000 in
theorem d_293_323 : decode (js_b 293) 323 = .ok (.iload 5, 2) := by decide +kernel
set_option maxRecDepth 20000 in
theorem d_293_325 : decode (js_b 293) 325 = .ok (.iconst 2, 1) := by decide +kernel
set_option maxRecDepth 20000 in
theorem d_293_326 : decode (js_b 293) 326 = .ok (.iadd, 1) := by decide +kernel
set_option maxRecDepth 20000 in
theorem d_293_327 : decode (js_b 293) 327 = .ok (.iaload, 1) := by decide +kernel
set_option maxRecDepth 20000 in
theorem d_293_328 : decode (js_b 293) 328 = .ok (.aload_n 0, 1) := by decide +kernel
set_option maxRecDepth 20000 in
theorem d_293_329 : decode (js_b 293) 329 = .ok (.iload 5, 2) := by decide +kernel
set_option maxRecDepth 20000 in
theorem d_293_331 : decode (js_b 293) 331 = .ok (.iconst 3, 1) := by decide +kernel
set_option maxRecDepth 20000 in
theorem d_293_332 : decode (js_b 293) 332 = .ok (.iadd, 1) := by decide +kernel
set_option maxRecDepth 20000 in
theorem d_293_333 : decode (js_b 293) 333 = .ok (.iaload, 1) := by decide +kernel
set_option maxRecDepth 20000 in
theorem d_293_334 : decode (js_b 293) 334 = .ok (.aload_n 0, 1) := by decide +kernel
set_option maxRecDepth 20000 in
theorem d_293_335 : decode (js_b 293) 335 = .ok (.iload 5, 2) := by decide +kernel
set_option maxRecDepth 20000 in
theorem d_293_337 : decode (js_b 293) 337 = .ok (.iconst 4, 1) := by decide +kernel
set_option maxRecDepth 20000 in
theorem d_293_338 : decode (js_b 293) 338 = .ok (.iadd, 1) := by decide +kernel
set_option maxRecDepth 20000 in
theorem d_293_339 : decode (js_b 293) 339 = .ok (.iaload, 1) := by decide +kernel
set_option maxRecDepth 20000 in
theorem d_293_340 : decode (js_b 293) 340 = .ok (.aload_n 0, 1) := by decide +kernel
set_option maxRecDepth 20000 in
theorem d_293_341 : decode (js_b 293) 341 = .ok (.iload 5, 2) := by decide +kernel
set_option maxRecDepth 20000 in
theorem d_293_343 : decode (js_b 293) 343 = .ok (.iconst 5, 1) := by decide +kernel
set_option maxRecDepth 20000 in
theorem d_293_344 : decode (js_b 293) 344 = .ok (.iadd, 1) := by decide +kernel
set_option maxRecDepth 20000 in
theorem d_293_345 : decode (js_b 293) 345 = .ok (.iaload, 1) := by decide +kernel
set_option maxRecDepth 20000 in
theorem d_293_346 : decode (js_b 293) 346 = .ok (.invokevirtual 158, 3) := by decide +kernel
set_option maxRecDepth 20000 in
theorem d_293_349 : decode (js_b 293) 349 = .ok (.istore 7, 2) := by decide +kernel
set_option maxRecDepth 20000 in
theorem d_293_351 : decode (js_b 293) 351 = .ok (.aload_n 2, 1) := by decide +kernel
set_option maxRecDepth 20000 in
theorem d_293_352 : decode (js_b 293) 352 = .ok (.invokevirtual 159, 3) := by decide +kernel
set_option maxRecDepth 20000 in
theorem d_293_355 : decode (js_b 293) 355 = .ok (.iload 6, 2) := by decide +kernel
set_option maxRecDepth 20000 in
theorem d_293_357 : decode (js_b 293) 357 = .ok (.if_icmp .eq 5, 3) := by decide +kernel
set_option maxRecDepth 20000 in
theorem d_293_360 : decode (js_b 293) 360 = .ok (.iconst 0, 1) := by decide +kernel
set_option maxRecDepth 20000 in
theorem d_293_361 : decode (js_b 293) 361 = .ok (.ireturn, 1) := by decide +kernel
set_option maxRecDepth 20000 in
theorem d_293_362 : decode (js_b 293) 362 = .ok (.iload 6, 2) := by decide +kernel
set_option maxRecDepth 20000 in
theorem d_293_364 : decode (js_b 293) 364 = .ok (.ifCond .ne 15, 3) := by decide +kernel
set_option maxRecDepth 20000 in
theorem d_293_367 : decode (js_b 293) 367 = .ok (.aload_n 3, 1) := by decide +kernel
set_option maxRecDepth 20000 in
theorem d_293_368 : decode (js_b 293) 368 = .ok (.iconst 0, 1) := by decide +kernel
set_option maxRecDepth 20000 in
theorem d_293_369 : decode (js_b 293) 369 = .ok (.laload, 1) := by decide +kernel
set_option maxRecDepth 20000 in
theorem d_293_370 : decode (js_b 293) 370 = .ok (.iload 7, 2) := by decide +kernel
set_option maxRecDepth 20000 in
theorem d_293_372 : decode (js_b 293) 372 = .ok (.i2l, 1) := by decide +kernel
set_option maxRecDepth 20000 in
theorem d_293_373 : decode (js_b 293) 373 = .ok (.lcmp, 1) := by decide +kernel
set_option maxRecDepth 20000 in
theorem d_293_374 : decode (js_b 293) 374 = .ok (.ifCond .eq 5, 3) := by decide +kernel
set_option maxRecDepth 20000 in
theorem d_293_377 : decode (js_b 293) 377 = .ok (.iconst 0, 1) := by decide +kernel
set_option maxRecDepth 20000 in
theorem d_293_378 : decode (js_b 293) 378 = .ok (.ireturn, 1) := by decide +kernel
set_option maxRecDepth 20000 in
theorem d_293_379 : decode (js_b 293) 379 = .ok (.goto 2472, 3) := by decide +kernel
set_option maxRecDepth 20000 in
theorem d_293_382 : decode (js_b 293) 382 = .ok (.aload_n 1, 1) := by decide +kernel
set_option maxRecDepth 20000 in
theorem d_293_383 : decode (js_b 293) 383 = .ok (.aload_n 0, 1) := by decide +kernel
set_option maxRecDepth 20000 in
theorem d_293_384 : decode (js_b 293) 384 = .ok (.iload 5, 2) := by decide +kernel
set_option maxRecDepth 20000 in
theorem d_293_386 : decode (js_b 293) 386 = .ok (.iconst 1, 1) := by decide +kernel
set_option maxRecDepth 20000 in
theorem d_293_387 : decode (js_b 293) 387 = .ok (.iadd, 1) := by decide +kernel
set_option maxRecDepth 20000 in
theorem d_293_388 : decode (js_b 293) 388 = .ok (.iaload, 1) := by decide +kernel
set_option maxRecDepth 20000 in
theorem d_293_389 : decode (js_b 293) 389 = .ok (.aload_n 3, 1) := by decide +kernel
set_option maxRecDepth 20000 in
theorem d_293_390 : decode (js_b 293) 390 = .ok (.invokestatic 162, 3) := by decide +kernel
set_option maxRecDepth 20000 in
theorem d_293_393 : decode (js_b 293) 393 = .ok (.istore 6, 2) := by decide +kernel
set_option maxRecDepth 20000 in
theorem d_293_395 : decode (js_b 293) 395 = .ok (.aload_n 2, 1) := by decide +kernel
set_option maxRecDepth 20000 in
theorem d_293_396 : decode (js_b 293) 396 = .ok (.aload_n 0, 1) := by decide +kernel
set_option maxRecDepth 20000 in
theorem d_293_397 : decode (js_b 293) 397 = .ok (.iload 5, 2) := by decide +kernel
set_option maxRecDepth 20000 in
theorem d_293_399 : decode (js_b 293) 399 = .ok (.iconst 1, 1) := by decide +kernel
set_option maxRecDepth 20000 in
theorem d_293_400 : decode (js_b 293) 400 = .ok (.iadd, 1) := by decide +kernel
set_option maxRecDepth 20000 in
theorem d_293_401 : decode (js_b 293) 401 = .ok (.iaload, 1) := by decide +kernel
set_option maxRecDepth 20000 in
theorem d_293_402 : decode (js_b 293) 402 = .ok (.invokevirtual 165, 3) := by decide +kernel
set_option maxRecDepth 20000 in
theorem d_293_405 : decode (js_b 293) 405 = .ok (.istore 7, 2) := by decide +kernel
set_option maxRecDepth 20000 in
theorem d_293_407 : decode (js_b 293) 407 = .ok (.aload_n 2, 1) := by decide +kernel
set_option maxRecDepth 20000 in
theorem d_293_408 : decode (js_b 293) 408 = .ok (.invokevirtual 159, 3) := by decide +kernel
set_option maxRecDepth 20000 in
theorem d_293_411 : decode (js_b 293) 411 = .ok (.iload 6, 2) := by decide +kernel
set_option maxRecDepth 20000 in
theorem d_293_413 : decode (js_b 293) 413 = .ok (.if_icmp .eq 5, 3) := by decide +kernel
set_option maxRecDepth 20000 in
theorem d_293_416 : decode (js_b 293) 416 = .ok (.iconst 0, 1) := by decide +kernel
set_option maxRecDepth 20000 in
theorem d_293_417 : decode (js_b 293) 417 = .ok (.ireturn, 1) := by decide +kernel
set_option maxRecDepth 20000 in
theorem d_293_418 : decode (js_b 293) 418 = .ok (.iload 6, 2) := by decide +kernel
set_option maxRecDepth 20000 in
theorem d_293_420 : decode (js_b 293) 420 = .ok (.ifCond .ne 15, 3) := by decide +kernel
set_option maxRecDepth 20000 in
theorem d_293_423 : decode (js_b 293) 423 = .ok (.aload_n 3, 1) := by decide +kernel
set_option maxRecDepth 20000 in
theorem d_293_424 : decode (js_b 293) 424 = .ok (.iconst 0, 1) := by decide +kernel
set_option maxRecDepth 20000 in
theorem d_293_425 : decode (js_b 293) 425 = .ok (.laload, 1) := by decide +kernel
set_option maxRecDepth 20000 in
theorem d_293_426 : decode (js_b 293) 426 = .ok (.iload 7, 2) := by decide +kernel
set_option maxRecDepth 20000 in
theorem d_293_428 : decode (js_b 293) 428 = .ok (.i2l, 1) := by decide +kernel
set_option maxRecDepth 20000 in
theorem d_293_429 : decode (js_b 293) 429 = .ok (.lcmp, 1) := by decide +kernel
set_option maxRecDepth 20000 in
theorem d_293_430 : decode (js_b 293) 430 = .ok (.ifCond .eq 5, 3) := by decide +kernel
set_option maxRecDepth 20000 in
theorem d_293_433 : decode (js_b 293) 433 = .ok (.iconst 0, 1) := by decide +kernel
set_option maxRecDepth 20000 in
theorem d_293_434 : decode (js_b 293) 434 = .ok (.ireturn, 1) := by decide +kernel
set_option maxRecDepth 20000 in
theorem d_293_435 : decode (js_b 293) 435 = .ok (.goto 2416, 3) := by decide +kernel
set_option maxRecDepth 20000 in
theorem d_293_438 : decode (js_b 293) 438 = .ok (.aload_n 1, 1) := by decide +kernel
set_option maxRecDepth 20000 in
theorem d_293_439 : decode (js_b 293) 439 = .ok (.invokevirtual 166, 3) := by decide +kernel
set_option maxRecDepth 20000 in
theorem d_293_442 : decode (js_b 293) 442 = .ok (.aload_n 2, 1) := by decide +kernel
set_option maxRecDepth 20000 in
theorem d_293_443 : decode (js_b 293) 443 = .ok (.invokevirtual 169, 3) := by decide +kernel
set_option maxRecDepth 20000 in
theorem d_293_446 : decode (js_b 293) 446 = .ok (.if_icmp .eq 2405, 3) := by decide +kernel
set_option maxRecDepth 20000 in
theorem d_293_449 : decode (js_b 293) 449 = .ok (.iconst 0, 1) := by decide +kernel
set_option maxRecDepth 20000 in
theorem d_293_450 : decode (js_b 293) 450 = .ok (.ireturn, 1) := by decide +kernel
set_option maxRecDepth 20000 in
theorem d_293_451 : decode (js_b 293) 451 = .ok (.aload_n 1, 1) := by decide +kernel
set_option maxRecDepth 20000 in
theorem d_293_452 : decode (js_b 293) 452 = .ok (.invokevirtual 170, 3) := by decide +kernel
set_option maxRecDepth 20000 in
theorem d_293_455 : decode (js_b 293) 455 = .ok (.aload_n 2, 1) := by decide +kernel
set_option maxRecDepth 20000 in
theorem d_293_456 : decode (js_b 293) 456 = .ok (.invokevirtual 173, 3) := by decide +kernel
set_option maxRecDepth 20000 in
theorem d_293_459 : decode (js_b 293) 459 = .ok (.if_icmp .eq 2392, 3) := by decide +kernel
set_option maxRecDepth 20000 in
theorem d_293_462 : decode (js_b 293) 462 = .ok (.iconst 0, 1) := by decide +kernel
set_option maxRecDepth 20000 in
theorem d_293_463 : decode (js_b 293) 463 = .ok (.ireturn, 1) := by decide +kernel
set_option maxRecDepth 20000 in
theorem d_293_464 : decode (js_b 293) 464 = .ok (.aload_n 1, 1) := by decide +kernel
set_option maxRecDepth 20000 in
theorem d_293_465 : decode (js_b 293) 465 = .ok (.aload_n 0, 1) := by decide +kernel
set_option maxRecDepth 20000 in
theorem d_293_466 : decode (js_b 293) 466 = .ok (.iload 5, 2) := by decide +kernel
set_option maxRecDepth 20000 in
theorem d_293_468 : decode (js_b 293) 468 = .ok (.iconst 1, 1) := by decide +kernel
set_option maxRecDepth 20000 in
theorem d_293_469 : decode (js_b 293) 469 = .ok (.iadd, 1) := by decide +kernel
set_option maxRecDepth 20000 in
theorem d_293_470 : decode (js_b 293) 470 = .ok (.iaload, 1) := by decide +kernel
set_option maxRecDepth 20000 in
theorem d_293_471 : decode (js_b 293) 471 = .ok (.aload_n 3, 1) := by decide +kernel
set_option maxRecDepth 20000 in
theorem d_293_472 : decode (js_b 293) 472 = .ok (.invokestatic 174, 3) := by decide +kernel
set_option maxRecDepth 20000 in
theorem d_293_475 : decode (js_b 293) 475 = .ok (.istore 6, 2) := by decide +kernel
set_option maxRecDepth 20000 in
theorem d_293_477 : decode (js_b 293) 477 = .ok (.aload_n 2, 1) := by decide +kernel
set_option maxRecDepth 20000 in
theorem d_293_478 : decode (js_b 293) 478 = .ok (.aload_n 0, 1) := by decide +kernel
set_option maxRecDepth 20000 in
theorem d_293_479 : decode (js_b 293) 479 = .ok (.iload 5, 2) := by decide +kernel
set_option maxRecDepth 20000 in
theorem d_293_481 : decode (js_b 293) 481 = .ok (.iconst 1, 1) := by decide +kernel
set_option maxRecDepth 20000 in
theorem d_293_482 : decode (js_b 293) 482 = .ok (.iadd, 1) := by decide +kernel
set_option maxRecDepth 20000 in
theorem d_293_483 : decode (js_b 293) 483 = .ok (.iaload, 1) := by decide +kernel
set_option maxRecDepth 20000 in
theorem d_293_484 : decode (js_b 293) 484 = .ok (.invokevirtual 176, 3) := by decide +kernel
set_option maxRecDepth 20000 in
theorem d_293_487 : decode (js_b 293) 487 = .ok (.istore 7, 2) := by decide +kernel
set_option maxRecDepth 20000 in
theorem d_293_489 : decode (js_b 293) 489 = .ok (.aload_n 2, 1) := by decide +kernel
set_option maxRecDepth 20000 in
theorem d_293_490 : decode (js_b 293) 490 = .ok (.invokevirtual 159, 3) := by decide +kernel
set_option maxRecDepth 20000 in
theorem d_293_493 : decode (js_b 293) 493 = .ok (.iload 6, 2) := by decide +kernel
set_option maxRecDepth 20000 in
theorem d_293_495 : decode (js_b 293) 495 = .ok (.if_icmp .eq 5, 3) := by decide +kernel
set_option maxRecDepth 20000 in
theorem d_293_498 : decode (js_b 293) 498 = .ok (.iconst 0, 1) := by decide +kernel
set_option maxRecDepth 20000 in
theorem d_293_499 : decode (js_b 293) 499 = .ok (.ireturn, 1) := by decide +kernel
set_option maxRecDepth 20000 in
theorem d_293_500 : decode (js_b 293) 500 = .ok (.iload 6, 2) := by decide +kernel
set_option maxRecDepth 20000 in
theorem d_293_502 : decode (js_b 293) 502 = .ok (.ifCond .ne 15, 3) := by decide +kernel
set_option maxRecDepth 20000 in
theorem d_293_505 : decode (js_b 293) 505 = .ok (.aload_n 3, 1) := by decide +kernel
set_option maxRecDepth 20000 in
theorem d_293_506 : decode (js_b 293) 506 = .ok (.iconst 0, 1) := by decide +kernel
set_option maxRecDepth 20000 in
theorem d_293_507 : decode (js_b 293) 507 = .ok (.laload, 1) := by decide +kernel
set_option maxRecDepth 20000 in
theorem d_293_508 : decode (js_b 293) 508 = .ok (.iload 7, 2) := by decide +kernel
set_option maxRecDepth 20000 in
theorem d_293_510 : decode (js_b 293) 510 = .ok (.i2l, 1) := by decide +kernel
set_option maxRecDepth 20000 in
theorem d_293_511 : decode (js_b 293) 511 = .ok (.lcmp, 1) := by decide +kernel
set_option maxRecDepth 20000 in
theorem d_293_512 : decode (js_b 293) 512 = .ok (.ifCond .eq 5, 3) := by decide +kernel
set_option maxRecDepth 20000 in
theorem d_293_515 : decode (js_b 293) 515 = .ok (.iconst 0, 1) := by decide +kernel
set_option maxRecDepth 20000 in
theorem d_293_516 : decode (js_b 293) 516 = .ok (.ireturn, 1) := by decide +kernel
set_option maxRecDepth 20000 in
theorem d_293_517 : decode (js_b 293) 517 = .ok (.goto 2334, 3) := by decide +kernel
set_option maxRecDepth 20000 in
theorem d_293_520 : decode (js_b 293) 520 = .ok (.aload_n 1, 1) := by decide +kernel
set_option maxRecDepth 20000 in
theorem d_293_521 : decode (js_b 293) 521 = .ok (.aload_n 0, 1) := by decide +kernel
set_option maxRecDepth 20000 in
theorem d_293_522 : decode (js_b 293) 522 = .ok (.iload 5, 2) := by decide +kernel
set_option maxRecDepth 20000 in
theorem d_293_524 : decode (js_b 293) 524 = .ok (.iconst 1, 1) := by decide +kernel
set_option maxRecDepth 20000 in
theorem d_293_525 : decode (js_b 293) 525 = .ok (.iadd, 1) := by decide +kernel
set_option maxRecDepth 20000 in
theorem d_293_526 : decode (js_b 293) 526 = .ok (.iaload, 1) := by decide +kernel
set_option maxRecDepth 20000 in
theorem d_293_527 : decode (js_b 293) 527 = .ok (.invokevirtual 177, 3) := by decide +kernel
set_option maxRecDepth 20000 in
theorem d_293_530 : decode (js_b 293) 530 = .ok (.aload_n 2, 1) := by decide +kernel
set_option maxRecDepth 20000 in
theorem d_293_531 : decode (js_b 293) 531 = .ok (.aload_n 0, 1) := by decide +kernel
set_option maxRecDepth 20000 in
theorem d_293_532 : decode (js_b 293) 532 = .ok (.iload 5, 2) := by decide +kernel
set_option maxRecDepth 20000 in
theorem d_293_534 : decode (js_b 293) 534 = .ok (.iconst 1, 1) := by decide +kernel
set_option maxRecDepth 20000 in
theorem d_293_535 : decode (js_b 293) 535 = .ok (.iadd, 1) := by decide +kernel
set_option maxRecDepth 20000 in
theorem d_293_536 : decode (js_b 293) 536 = .ok (.iaload, 1) := by decide +kernel
set_option maxRecDepth 20000 in
theorem d_293_537 : decode (js_b 293) 537 = .ok (.invokevirtual 180, 3) := by decide +kernel
set_option maxRecDepth 20000 in
theorem d_293_540 : decode (js_b 293) 540 = .ok (.if_icmp .eq 2311, 3) := by decide +kernel
set_option maxRecDepth 20000 in
theorem d_293_543 : decode (js_b 293) 543 = .ok (.iconst 0, 1) := by decide +kernel
set_option maxRecDepth 20000 in
theorem d_293_544 : decode (js_b 293) 544 = .ok (.ireturn, 1) := by decide +kernel
set_option maxRecDepth 20000 in
theorem d_293_545 : decode (js_b 293) 545 = .ok (.aload_n 1, 1) := by decide +kernel
set_option maxRecDepth 20000 in
theorem d_293_546 : decode (js_b 293) 546 = .ok (.aload_n 0, 1) := by decide +kernel
set_option maxRecDepth 20000 in
theorem d_293_547 : decode (js_b 293) 547 = .ok (.iload 5, 2) := by decide +kernel
set_option maxRecDepth 20000 in
theorem d_293_549 : decode (js_b 293) 549 = .ok (.iconst 1, 1) := by decide +kernel
set_option maxRecDepth 20000 in
theorem d_293_550 : decode (js_b 293) 550 = .ok (.iadd, 1) := by decide +kernel
set_option maxRecDepth 20000 in
theorem d_293_551 : decode (js_b 293) 551 = .ok (.iaload, 1) := by decide +kernel
set_option maxRecDepth 20000 in
theorem d_293_552 : decode (js_b 293) 552 = .ok (.aload_n 3, 1) := by decide +kernel
set_option maxRecDepth 20000 in
theorem d_293_553 : decode (js_b 293) 553 = .ok (.invokestatic 181, 3) := by decide +kernel
set_option maxRecDepth 20000 in
theorem d_293_556 : decode (js_b 293) 556 = .ok (.istore 6, 2) := by decide +kernel
set_option maxRecDepth 20000 in
theorem d_293_558 : decode (js_b 293) 558 = .ok (.aload_n 2, 1) := by decide +kernel
set_option maxRecDepth 20000 in
theorem d_293_559 : decode (js_b 293) 559 = .ok (.aload_n 0, 1) := by decide +kernel
set_option maxRecDepth 20000 in
theorem d_293_560 : decode (js_b 293) 560 = .ok (.iload 5, 2) := by decide +kernel
set_option maxRecDepth 20000 in
theorem d_293_562 : decode (js_b 293) 562 = .ok (.iconst 1, 1) := by decide +kernel
set_option maxRecDepth 20000 in
theorem d_293_563 : decode (js_b 293) 563 = .ok (.iadd, 1) := by decide +kernel
set_option maxRecDepth 20000 in
theorem d_293_564 : decode (js_b 293) 564 = .ok (.iaload, 1) := by decide +kernel
set_option maxRecDepth 20000 in
theorem d_293_565 : decode (js_b 293) 565 = .ok (.invokevirtual 183, 3) := by decide +kernel
set_option maxRecDepth 20000 in
theorem d_293_568 : decode (js_b 293) 568 = .ok (.istore 7, 2) := by decide +kernel
set_option maxRecDepth 20000 in
theorem d_293_570 : decode (js_b 293) 570 = .ok (.aload_n 2, 1) := by decide +kernel
set_option maxRecDepth 20000 in
theorem d_293_571 : decode (js_b 293) 571 = .ok (.invokevirtual 159, 3) := by decide +kernel
set_option maxRecDepth 20000 in
theorem d_293_574 : decode (js_b 293) 574 = .ok (.iload 6, 2) := by decide +kernel
set_option maxRecDepth 20000 in
theorem d_293_576 : decode (js_b 293) 576 = .ok (.if_icmp .eq 5, 3) := by decide +kernel
set_option maxRecDepth 20000 in
theorem d_293_579 : decode (js_b 293) 579 = .ok (.iconst 0, 1) := by decide +kernel
set_option maxRecDepth 20000 in
theorem d_293_580 : decode (js_b 293) 580 = .ok (.ireturn, 1) := by decide +kernel
set_option maxRecDepth 20000 in
theorem d_293_581 : decode (js_b 293) 581 = .ok (.iload 6, 2) := by decide +kernel
set_option maxRecDepth 20000 in
theorem d_293_583 : decode (js_b 293) 583 = .ok (.ifCond .ne 15, 3) := by decide +kernel
set_option maxRecDepth 20000 in
theorem d_293_586 : decode (js_b 293) 586 = .ok (.aload_n 3, 1) := by decide +kernel
set_option maxRecDepth 20000 in
theorem d_293_587 : decode (js_b 293) 587 = .ok (.iconst 0, 1) := by decide +kernel
set_option maxRecDepth 20000 in
theorem d_293_588 : decode (js_b 293) 588 = .ok (.laload, 1) := by decide +kernel
set_option maxRecDepth 20000 in
theorem d_293_589 : decode (js_b 293) 589 = .ok (.iload 7, 2) := by decide +kernel
set_option maxRecDepth 20000 in
theorem d_293_591 : decode (js_b 293) 591 = .ok (.i2l, 1) := by decide +kernel
set_option maxRecDepth 20000 in
theorem d_293_592 : decode (js_b 293) 592 = .ok (.lcmp, 1) := by decide +kernel
set_option maxRecDepth 20000 in
theorem d_293_593 : decode (js_b 293) 593 = .ok (.ifCond .eq 5, 3) := by decide +kernel
set_option maxRecDepth 20000 in
theorem d_293_596 : decode (js_b 293) 596 = .ok (.iconst 0, 1) := by decide +kernel
set_option maxRecDepth 20000 in
theorem d_293_597 : decode (js_b 293) 597 = .ok (.ireturn, 1) := by decide +kernel
set_option maxRecDepth 20000 in
theorem d_293_598 : decode (js_b 293) 598 = .ok (.goto 2253, 3) := by decide +kernel
set_option maxRecDepth 20000 in
theorem d_293_601 : decode (js_b 293) 601 = .ok (.aload_n 1, 1) := by decide +kernel
set_option maxRecDepth 20000 in
theorem d_293_602 : decode (js_b 293) 602 = .ok (.aload_n 0, 1) := by decide +kernel
set_option maxRecDepth 20000 in
theorem d_293_603 : decode (js_b 293) 603 = .ok (.iload 5, 2) := by decide +kernel
set_option maxRecDepth 20000 in
theorem d_293_605 : decode (js_b 293) 605 = .ok (.iconst 1, 1) := by decide +kernel
set_option maxRecDepth 20000 in
theorem d_293_606 : decode (js_b 293) 606 = .ok (.iadd, 1) := by decide +kernel
set_option maxRecDepth 20000 in
theorem d_293_607 : decode (js_b 293) 607 = .ok (.iaload, 1) := by decide +kernel
set_option maxRecDepth 20000 in
theorem d_293_608 : decode (js_b 293) 608 = .ok (.aload_n 3, 1) := by decide +kernel
set_option maxRecDepth 20000 in
theorem d_293_609 : decode (js_b 293) 609 = .ok (.invokestatic 184, 3) := by decide +kernel
set_option maxRecDepth 20000 in
theorem d_293_612 : decode (js_b 293) 612 = .ok (.istore 6, 2) := by decide +kernel
set_option maxRecDepth 20000 in
theorem d_293_614 : decode (js_b 293) 614 = .ok (.aload_n 2, 1) := by decide +kernel
set_option maxRecDepth 20000 in
theorem d_293_615 : decode (js_b 293) 615 = .ok (.aload_n 0, 1) := by decide +kernel
set_option maxRecDepth 20000 in
theorem d_293_616 : decode (js_b 293) 616 = .ok (.iload 5, 2) := by decide +kernel
set_option maxRecDepth 20000 in
theorem d_293_618 : decode (js_b 293) 618 = .ok (.iconst 1, 1) := by decide +kernel
set_option maxRecDepth 20000 in
theorem d_293_619 : decode (js_b 293) 619 = .ok (.iadd, 1) := by decide +kernel
set_option maxRecDepth 20000 in
theorem d_293_620 : decode (js_b 293) 620 = .ok (.iaload, 1) := by decide +kernel
set_option maxRecDepth 20000 in
theorem d_293_621 : decode (js_b 293) 621 = .ok (.invokevirtual 186, 3) := by decide +kernel
set_option maxRecDepth 20000 in
theorem d_293_624 : decode (js_b 293) 624 = .ok (.istore 7, 2) := by decide +kernel
set_option maxRecDepth 20000 in
theorem d_293_626 : decode (js_b 293) 626 = .ok (.aload_n 2, 1) := by decide +kernel
set_option maxRecDepth 20000 in
theorem d_293_627 : decode (js_b 293) 627 = .ok (.invokevirtual 159, 3) := by decide +kernel
set_option maxRecDepth 20000 in
theorem d_293_630 : decode (js_b 293) 630 = .ok (.iload 6, 2) := by decide +kernel
set_option maxRecDepth 20000 in
theorem d_293_632 : decode (js_b 293) 632 = .ok (.if_icmp .eq 5, 3) := by decide +kernel
set_option maxRecDepth 20000 in
theorem d_293_635 : decode (js_b 293) 635 = .ok (.iconst 0, 1) := by decide +kernel
set_option maxRecDepth 20000 in
theorem d_293_636 : decode (js_b 293) 636 = .ok (.ireturn, 1) := by decide +kernel
set_option maxRecDepth 20000 in
theorem d_293_637 : decode (js_b 293) 637 = .ok (.iload 6, 2) := by decide +kernel
set_option maxRecDepth 20000 in
theorem d_293_639 : decode (js_b 293) 639 = .ok (.ifCond .ne 15, 3) := by decide +kernel
set_option maxRecDepth 20000 in
theorem d_293_642 : decode (js_b 293) 642 = .ok (.aload_n 3, 1) := by decide +kernel
set_option maxRecDepth 20000 in
theorem d_293_643 : decode (js_b 293) 643 = .ok (.iconst 0, 1) := by decide +kernel
set_option maxRecDepth 20000 in
theorem d_293_644 : decode (js_b 293) 644 = .ok (.laload, 1) := by decide +kernel
set_option maxRecDepth 20000 in
theorem d_293_645 : decode (js_b 293) 645 = .ok (.iload 7, 2) := by decide +kernel
set_option maxRecDepth 20000 in
theorem d_293_647 : decode (js_b 293) 647 = .ok (.i2l, 1) := by decide +kernel
set_option maxRecDepth 20000 in
theorem d_293_648 : decode (js_b 293) 648 = .ok (.lcmp, 1) := by decide +kernel
set_option maxRecDepth 20000 in
theorem d_293_649 : decode (js_b 293) 649 = .ok (.ifCond .eq 5, 3) := by decide +kernel
set_option maxRecDepth 20000 in
theorem d_293_652 : decode (js_b 293) 652 = .ok (.iconst 0, 1) := by decide +kernel
set_option maxRecDepth 20000 in
theorem d_293_653 : decode (js_b 293) 653 = .ok (.ireturn, 1) := by decide +kernel
set_option maxRecDepth 20000 in
theorem d_293_654 : decode (js_b 293) 654 = .ok (.goto 2197, 3) := by decide +kernel
set_option maxRecDepth 20000 in
theorem d_293_657 : decode (js_b 293) 657 = .ok (.aload_n 1, 1) := by decide +kernel
set_option maxRecDepth 20000 in
theorem d_293_658 : decode (js_b 293) 658 = .ok (.aload_n 0, 1) := by decide +kernel
set_option maxRecDepth 20000 in
theorem d_293_659 : decode (js_b 293) 659 = .ok (.iload 5, 2) := by decide +kernel
set_option maxRecDepth 20000 in
theorem d_293_661 : decode (js_b 293) 661 = .ok (.iconst 1, 1) := by decide +kernel
set_option maxRecDepth 20000 in
theorem d_293_662 : decode (js_b 293) 662 = .ok (.iadd, 1) := by decide +kernel
set_option maxRecDepth 20000 in
theorem d_293_663 : decode (js_b 293) 663 = .ok (.iaload, 1) := by decide +kernel
set_option maxRecDepth 20000 in
theorem d_293_664 : decode (js_b 293) 664 = .ok (.aload_n 0, 1) := by decide +kernel
set_option maxRecDepth 20000 in
theorem d_293_665 : decode (js_b 293) 665 = .ok (.iload 5, 2) := by decide +kernel
set_option maxRecDepth 20000 in
theorem d_293_667 : decode (js_b 293) 667 = .ok (.iconst 2, 1) := by decide +kernel
set_option maxRecDepth 20000 in
theorem d_293_668 : decode (js_b 293) 668 = .ok (.iadd, 1) := by decide +kernel
set_option maxRecDepth 20000 in
theorem d_293_669 : decode (js_b 293) 669 = .ok (.iaload, 1) := by decide +kernel
set_option maxRecDepth 20000 in
theorem d_293_670 : decode (js_b 293) 670 = .ok (.aload_n 3, 1) := by decide +kernel
set_option maxRecDepth 20000 in
theorem d_293_671 : decode (js_b 293) 671 = .ok (.invokestatic 187, 3) := by decide +kernel
set_option maxRecDepth 20000 in
theorem d_293_674 : decode (js_b 293) 674 = .ok (.istore 6, 2) := by decide +kernel
set_option maxRecDepth 20000 in
theorem d_293_676 : decode (js_b 293) 676 = .ok (.aload_n 2, 1) := by decide +kernel
set_option maxRecDepth 20000 in
theorem d_293_677 : decode (js_b 293) 677 = .ok (.aload_n 0, 1) := by decide +kernel
set_option maxRecDepth 20000 in
theorem d_293_678 : decode (js_b 293) 678 = .ok (.iload 5, 2) := by decide +kernel
set_option maxRecDepth 20000 in
theorem d_293_680 : decode (js_b 293) 680 = .ok (.iconst 1, 1) := by decide +kernel
set_option maxRecDepth 20000 in
theorem d_293_681 : decode (js_b 293) 681 = .ok (.iadd, 1) := by decide +kernel
set_option maxRecDepth 20000 in
theorem d_293_682 : decode (js_b 293) 682 = .ok (.iaload, 1) := by decide +kernel
set_option maxRecDepth 20000 in
theorem d_293_683 : decode (js_b 293) 683 = .ok (.aload_n 0, 1) := by decide +kernel
set_option maxRecDepth 20000 in
theorem d_293_684 : decode (js_b 293) 684 = .ok (.iload 5, 2) := by decide +kernel
set_option maxRecDepth 20000 in
theorem d_293_686 : decode (js_b 293) 686 = .ok (.iconst 2, 1) := by decide +kernel
set_option maxRecDepth 20000 in
theorem d_293_687 : decode (js_b 293) 687 = .ok (.iadd, 1) := by decide +kernel
set_option maxRecDepth 20000 in
theorem d_293_688 : decode (js_b 293) 688 = .ok (.iaload, 1) := by decide +kernel
set_option maxRecDepth 20000 in
theorem d_293_689 : decode (js_b 293) 689 = .ok (.invokevirtual 190, 3) := by decide +kernel
set_option maxRecDepth 20000 in
theorem d_293_692 : decode (js_b 293) 692 = .ok (.istore 7, 2) := by decide +kernel
set_option maxRecDepth 20000 in
theorem d_293_694 : decode (js_b 293) 694 = .ok (.aload_n 2, 1) := by decide +kernel
set_option maxRecDepth 20000 in
theorem d_293_695 : decode (js_b 293) 695 = .ok (.invokevirtual 159, 3) := by decide +kernel
set_option maxRecDepth 20000 in
theorem d_293_698 : decode (js_b 293) 698 = .ok (.iload 6, 2) := by decide +kernel
set_option maxRecDepth 20000 in
theorem d_293_700 : decode (js_b 293) 700 = .ok (.if_icmp .eq 5, 3) := by decide +kernel
set_option maxRecDepth 20000 in
theorem d_293_703 : decode (js_b 293) 703 = .ok (.iconst 0, 1) := by decide +kernel
set_option maxRecDepth 20000 in
theorem d_293_704 : decode (js_b 293) 704 = .ok (.ireturn, 1) := by decide +kernel
set_option maxRecDepth 20000 in
theorem d_293_705 : decode (js_b 293) 705 = .ok (.iload 6, 2) := by decide +kernel
set_option maxRecDepth 20000 in
theorem d_293_707 : decode (js_b 293) 707 = .ok (.ifCond .ne 15, 3) := by decide +kernel
set_option maxRecDepth 20000 in
theorem d_293_710 : decode (js_b 293) 710 = .ok (.aload_n 3, 1) := by decide +kernel
set_option maxRecDepth 20000 in
theorem d_293_711 : decode (js_b 293) 711 = .ok (.iconst 0, 1) := by decide +kernel
set_option maxRecDepth 20000 in
theorem d_293_712 : decode (js_b 293) 712 = .ok (.laload, 1) := by decide +kernel
set_option maxRecDepth 20000 in
theorem d_293_713 : decode (js_b 293) 713 = .ok (.iload 7, 2) := by decide +kernel
set_option maxRecDepth 20000 in
theorem d_293_715 : decode (js_b 293) 715 = .ok (.i2l, 1) := by decide +kernel
set_option maxRecDepth 20000 in
theorem d_293_716 : decode (js_b 293) 716 = .ok (.lcmp, 1) := by decide +kernel
set_option maxRecDepth 20000 in
theorem d_293_717 : decode (js_b 293) 717 = .ok (.ifCond .eq 5, 3) := by decide +kernel
set_option maxRecDepth 20000 in
theorem d_293_720 : decode (js_b 293) 720 = .ok (.iconst 0, 1) := by decide +kernel
set_option maxRecDepth 20000 in
theorem d_293_721 : decode (js_b 293) 721 = .ok (.ireturn, 1) := by decide +kernel
set_option maxRecDepth 20000 in
theorem d_293_722 : decode (js_b 293) 722 = .ok (.goto 2129, 3) := by decide +kernel
set_option maxRecDepth 20000 in
theorem d_293_725 : decode (js_b 293) 725 = .ok (.aload_n 1, 1) := by decide +kernel
set_option maxRecDepth 20000 in
theorem d_293_726 : decode (js_b 293) 726 = .ok (.aload_n 0, 1) := by decide +kernel
set_option maxRecDepth 20000 in
theorem d_293_727 : decode (js_b 293) 727 = .ok (.iload 5, 2) := by decide +kernel
set_option maxRecDepth 20000 in
theorem d_293_729 : decode (js_b 293) 729 = .ok (.iconst 1, 1) := by decide +kernel
set_option maxRecDepth 20000 in
theorem d_293_730 : decode (js_b 293) 730 = .ok (.iadd, 1) := by decide +kernel
set_option maxRecDepth 20000 in
theorem d_293_731 : decode (js_b 293) 731 = .ok (.iaload, 1) := by decide +kernel
set_option maxRecDepth 20000 in
theorem d_293_732 : decode (js_b 293) 732 = .ok (.aload_n 3, 1) := by decide +kernel
set_option maxRecDepth 20000 in
theorem d_293_733 : decode (js_b 293) 733 = .ok (.invokestatic 191, 3) := by decide +kernel
set_option maxRecDepth 20000 in
theorem d_293_736 : decode (js_b 293) 736 = .ok (.istore 6, 2) := by decide +kernel
set_option maxRecDepth 20000 in
theorem d_293_738 : decode (js_b 293) 738 = .ok (.aload_n 2, 1) := by decide +kernel
set_option maxRecDepth 20000 in
theorem d_293_739 : decode (js_b 293) 739 = .ok (.aload_n 0, 1) := by decide +kernel
set_option maxRecDepth 20000 in
theorem d_293_740 : decode (js_b 293) 740 = .ok (.iload 5, 2) := by decide +kernel
set_option maxRecDepth 20000 in
theorem d_293_742 : decode (js_b 293) 742 = .ok (.iconst 1, 1) := by decide +kernel
set_option maxRecDepth 20000 in
theorem d_293_743 : decode (js_b 293) 743 = .ok (.iadd, 1) := by decide +kernel
set_option maxRecDepth 20000 in
theorem d_293_744 : decode (js_b 293) 744 = .ok (.iaload, 1) := by decide +kernel
set_option maxRecDepth 20000 in
theorem d_293_745 : decode (js_b 293) 745 = .ok (.invokevirtual 193, 3) := by decide +kernel
set_option maxRecDepth 20000 in
theorem d_293_748 : decode (js_b 293) 748 = .ok (.istore 7, 2) := by decide +kernel
set_option maxRecDepth 20000 in
theorem d_293_750 : decode (js_b 293) 750 = .ok (.aload_n 2, 1) := by decide +kernel
set_option maxRecDepth 20000 in
theorem d_293_751 : decode (js_b 293) 751 = .ok (.invokevirtual 159, 3) := by decide +kernel
set_option maxRecDepth 20000 in
theorem d_293_754 : decode (js_b 293) 754 = .ok (.iload 6, 2) := by decide +kernel
set_option maxRecDepth 20000 in
theorem d_293_756 : decode (js_b 293) 756 = .ok (.if_icmp .eq 5, 3) := by decide +kernel
set_option maxRecDepth 20000 in
theorem d_293_759 : decode (js_b 293) 759 = .ok (.iconst 0, 1) := by decide +kernel
set_option maxRecDepth 20000 in
theorem d_293_760 : decode (js_b 293) 760 = .ok (.ireturn, 1) := by decide +kernel
set_option maxRecDepth 20000 in
theorem d_293_761 : decode (js_b 293) 761 = .ok (.iload 6, 2) := by decide +kernel
set_option maxRecDepth 20000 in
theorem d_293_763 : decode (js_b 293) 763 = .ok (.ifCond .ne 22, 3) := by decide +kernel
set_option maxRecDepth 20000 in
theorem d_293_766 : decode (js_b 293) 766 = .ok (.aload_n 3, 1) := by decide +kernel
set_option maxRecDepth 20000 in
theorem d_293_767 : decode (js_b 293) 767 = .ok (.iconst 0, 1) := by decide +kernel
set_option maxRecDepth 20000 in
theorem d_293_768 : decode (js_b 293) 768 = .ok (.laload, 1) := by decide +kernel
set_option maxRecDepth 20000 in
theorem d_293_769 : decode (js_b 293) 769 = .ok (.iload 7, 2) := by decide +kernel
set_option maxRecDepth 20000 in
theorem d_293_771 : decode (js_b 293) 771 = .ok (.ifCond .eq 7, 3) := by decide +kernel
set_option maxRecDepth 20000 in
theorem d_293_774 : decode (js_b 293) 774 = .ok (.lconst 1, 1) := by decide +kernel
set_option maxRecDepth 20000 in
theorem d_293_775 : decode (js_b 293) 775 = .ok (.goto 4, 3) := by decide +kernel
set_option maxRecDepth 20000 in
theorem d_293_778 : decode (js_b 293) 778 = .ok (.lconst 0, 1) := by decide +kernel
set_option maxRecDepth 20000 in
theorem d_293_779 : decode (js_b 293) 779 = .ok (.lcmp, 1) := by decide +kernel
set_option maxRecDepth 20000 in
theorem d_293_780 : decode (js_b 293) 780 = .ok (.ifCond .eq 5, 3) := by decide +kernel
set_option maxRecDepth 20000 in
theorem d_293_783 : decode (js_b 293) 783 = .ok (.iconst 0, 1) := by decide +kernel
set_option maxRecDepth 20000 in
theorem d_293_784 : decode (js_b 293) 784 = .ok (.ireturn, 1) := by decide +kernel
set_option maxRecDepth 20000 in
theorem d_293_785 : decode (js_b 293) 785 = .ok (.goto 2066, 3) := by decide +kernel
set_option maxRecDepth 20000 in
theorem d_293_788 : decode (js_b 293) 788 = .ok (.aload_n 1, 1) := by decide +kernel
set_option maxRecDepth 20000 in
theorem d_293_789 : decode (js_b 293) 789 = .ok (.aload_n 0, 1) := by decide +kernel
set_option maxRecDepth 20000 in
theorem d_293_790 : decode (js_b 293) 790 = .ok (.iload 5, 2) := by decide +kernel
set_option maxRecDepth 20000 in
theorem d_293_792 : decode (js_b 293) 792 = .ok (.iconst 1, 1) := by decide +kernel
set_option maxRecDepth 20000 in
theorem d_293_793 : decode (js_b 293) 793 = .ok (.iadd, 1) := by decide +kernel
set_option maxRecDepth 20000 in
theorem d_293_794 : decode (js_b 293) 794 = .ok (.iaload, 1) := by decide +kernel
set_option maxRecDepth 20000 in
theorem d_293_795 : decode (js_b 293) 795 = .ok (.aload_n 3, 1) := by decide +kernel
set_option maxRecDepth 20000 in
theorem d_293_796 : decode (js_b 293) 796 = .ok (.invokestatic 194, 3) := by decide +kernel
set_option maxRecDepth 20000 in
theorem d_293_799 : decode (js_b 293) 799 = .ok (.istore 6, 2) := by decide +kernel
set_option maxRecDepth 20000 in
theorem d_293_801 : decode (js_b 293) 801 = .ok (.aload_n 2, 1) := by decide +kernel
set_option maxRecDepth 20000 in
theorem d_293_802 : decode (js_b 293) 802 = .ok (.aload_n 0, 1) := by decide +kernel
set_option maxRecDepth 20000 in
theorem d_293_803 : decode (js_b 293) 803 = .ok (.iload 5, 2) := by decide +kernel
set_option maxRecDepth 20000 in
theorem d_293_805 : decode (js_b 293) 805 = .ok (.iconst 1, 1) := by decide +kernel
set_option maxRecDepth 20000 in
theorem d_293_806 : decode (js_b 293) 806 = .ok (.iadd, 1) := by decide +kernel
set_option maxRecDepth 20000 in
theorem d_293_807 : decode (js_b 293) 807 = .ok (.iaload, 1) := by decide +kernel
set_option maxRecDepth 20000 in
theorem d_293_808 : decode (js_b 293) 808 = .ok (.invokevirtual 196, 3) := by decide +kernel
set_option maxRecDepth 20000 in
theorem d_293_811 : decode (js_b 293) 811 = .ok (.istore 7, 2) := by decide +kernel
set_option maxRecDepth 20000 in
theorem d_293_813 : decode (js_b 293) 813 = .ok (.aload_n 2, 1) := by decide +kernel
set_option maxRecDepth 20000 in
theorem d_293_814 : decode (js_b 293) 814 = .ok (.invokevirtual 159, 3) := by decide +kernel
set_option maxRecDepth 20000 in
theorem d_293_817 : decode (js_b 293) 817 = .ok (.iload 6, 2) := by decide +kernel
set_option maxRecDepth 20000 in
theorem d_293_819 : decode (js_b 293) 819 = .ok (.if_icmp .eq 5, 3) := by decide +kernel
set_option maxRecDepth 20000 in
theorem d_293_822 : decode (js_b 293) 822 = .ok (.iconst 0, 1) := by decide +kernel
set_option maxRecDepth 20000 in
theorem d_293_823 : decode (js_b 293) 823 = .ok (.ireturn, 1) := by decide +kernel
set_option maxRecDepth 20000 in
theorem d_293_824 : decode (js_b 293) 824 = .ok (.iload 6, 2) := by decide +kernel
set_option maxRecDepth 20000 in
theorem d_293_826 : decode (js_b 293) 826 = .ok (.ifCond .ne 15, 3) := by decide +kernel
set_option maxRecDepth 20000 in
theorem d_293_829 : decode (js_b 293) 829 = .ok (.aload_n 3, 1) := by decide +kernel
set_option maxRecDepth 20000 in
theorem d_293_830 : decode (js_b 293) 830 = .ok (.iconst 0, 1) := by decide +kernel
set_option maxRecDepth 20000 in
theorem d_293_831 : decode (js_b 293) 831 = .ok (.laload, 1) := by decide +kernel
set_option maxRecDepth 20000 in
theorem d_293_832 : decode (js_b 293) 832 = .ok (.iload 7, 2) := by decide +kernel
set_option maxRecDepth 20000 in
theorem d_293_834 : decode (js_b 293) 834 = .ok (.i2l, 1) := by decide +kernel
set_option maxRecDepth 20000 in
theorem d_293_835 : decode (js_b 293) 835 = .ok (.lcmp, 1) := by decide +kernel
set_option maxRecDepth 20000 in
theorem d_293_836 : decode (js_b 293) 836 = .ok (.ifCond .eq 5, 3) := by decide +kernel
set_option maxRecDepth 20000 in
theorem d_293_839 : decode (js_b 293) 839 = .ok (.iconst 0, 1) := by decide +kernel
set_option maxRecDepth 20000 in
theorem d_293_840 : decode (js_b 293) 840 = .ok (.ireturn, 1) := by decide +kernel
set_option maxRecDepth 20000 in
theorem d_293_841 : decode (js_b 293) 841 = .ok (.goto 2010, 3) := by decide +kernel
set_option maxRecDepth 20000 in
theorem d_293_844 : decode (js_b 293) 844 = .ok (.aload_n 1, 1) := by decide +kernel
set_option maxRecDepth 20000 in
theorem d_293_845 : decode (js_b 293) 845 = .ok (.invokevirtual 197, 3) := by decide +kernel
set_option maxRecDepth 20000 in
theorem d_293_848 : decode (js_b 293) 848 = .ok (.aload_n 2, 1) := by decide +kernel
set_option maxRecDepth 20000 in
theorem d_293_849 : decode (js_b 293) 849 = .ok (.invokevirtual 200, 3) := by decide +kernel
set_option maxRecDepth 20000 in
theorem d_293_852 : decode (js_b 293) 852 = .ok (.if_icmp .eq 1999, 3) := by decide +kernel
set_option maxRecDepth 20000 in
theorem d_293_855 : decode (js_b 293) 855 = .ok (.iconst 0, 1) := by decide +kernel
set_option maxRecDepth 20000 in
theorem d_293_856 : decode (js_b 293) 856 = .ok (.ireturn, 1) := by decide +kernel
set_option maxRecDepth 20000 in
theorem d_293_857 : decode (js_b 293) 857 = .ok (.aload_n 1, 1) := by decide +kernel
set_option maxRecDepth 20000 in
theorem d_293_858 : decode (js_b 293) 858 = .ok (.aload_n 0, 1) := by decide +kernel
set_option maxRecDepth 20000 in
theorem d_293_859 : decode (js_b 293) 859 = .ok (.iload 5, 2) := by decide +kernel
set_option maxRecDepth 20000 in
theorem d_293_861 : decode (js_b 293) 861 = .ok (.iconst 1, 1) := by decide +kernel
set_option maxRecDepth 20000 in
theorem d_293_862 : decode (js_b 293) 862 = .ok (.iadd, 1) := by decide +kernel
set_option maxRecDepth 20000 in
theorem d_293_863 : decode (js_b 293) 863 = .ok (.iaload, 1) := by decide +kernel
set_option maxRecDepth 20000 in
theorem d_293_864 : decode (js_b 293) 864 = .ok (.aload_n 0, 1) := by decide +kernel
set_option maxRecDepth 20000 in
theorem d_293_865 : decode (js_b 293) 865 = .ok (.iload 5, 2) := by decide +kernel
set_option maxRecDepth 20000 in
theorem d_293_867 : decode (js_b 293) 867 = .ok (.iconst 2, 1) := by decide +kernel
set_option maxRecDepth 20000 in
theorem d_293_868 : decode (js_b 293) 868 = .ok (.iadd, 1) := by decide +kernel
set_option maxRecDepth 20000 in
theorem d_293_869 : decode (js_b 293) 869 = .ok (.iaload, 1) := by decide +kernel
set_option maxRecDepth 20000 in
theorem d_293_870 : decode (js_b 293) 870 = .ok (.aload_n 0, 1) := by decide +kernel
set_option maxRecDepth 20000 in
theorem d_293_871 : decode (js_b 293) 871 = .ok (.iload 5, 2) := by decide +kernel
set_option maxRecDepth 20000 in
theorem d_293_873 : decode (js_b 293) 873 = .ok (.iconst 3, 1) := by decide +kernel
set_option maxRecDepth 20000 in
theorem d_293_874 : decode (js_b 293) 874 = .ok (.iadd, 1) := by decide +kernel
set_option maxRecDepth 20000 in
theorem d_293_875 : decode (js_b 293) 875 = .ok (.iaload, 1) := by decide +kernel
set_option maxRecDepth 20000 in
theorem d_293_876 : decode (js_b 293) 876 = .ok (.aload_n 3, 1) := by decide +kernel
set_option maxRecDepth 20000 in
theorem d_293_877 : decode (js_b 293) 877 = .ok (.invokestatic 201, 3) := by decide +kernel
set_option maxRecDepth 20000 in
theorem d_293_880 : decode (js_b 293) 880 = .ok (.istore 6, 2) := by decide +kernel
set_option maxRecDepth 20000 in
theorem d_293_882 : decode (js_b 293) 882 = .ok (.aload_n 2, 1) := by decide +kernel
set_option maxRecDepth 20000 in
theorem d_293_883 : decode (js_b 293) 883 = .ok (.aload_n 0, 1) := by decide +kernel
set_option maxRecDepth 20000 in
theorem d_293_884 : decode (js_b 293) 884 = .ok (.iload 5, 2) := by decide +kernel
set_option maxRecDepth 20000 in
theorem d_293_886 : decode (js_b 293) 886 = .ok (.iconst 1, 1) := by decide +kernel
set_option maxRecDepth 20000 in
theorem d_293_887 : decode (js_b 293) 887 = .ok (.iadd, 1) := by decide +kernel
set_option maxRecDepth 20000 in
theorem d_293_888 : decode (js_b 293) 888 = .ok (.iaload, 1) := by decide +kernel
set_option maxRecDepth 20000 in
theorem d_293_889 : decode (js_b 293) 889 = .ok (.aload_n 0, 1) := by decide +kernel
set_option maxRecDepth 20000 in
theorem d_293_890 : decode (js_b 293) 890 = .ok (.iload 5, 2) := by decide +kernel
set_option maxRecDepth 20000 in
theorem d_293_892 : decode (js_b 293) 892 = .ok (.iconst 2, 1) := by decide +kernel
set_option maxRecDepth 20000 in
theorem d_293_893 : decode (js_b 293) 893 = .ok (.iadd, 1) := by decide +kernel
set_option maxRecDepth 20000 in
theorem d_293_894 : decode (js_b 293) 894 = .ok (.iaload, 1) := by decide +kernel
set_option maxRecDepth 20000 in
theorem d_293_895 : decode (js_b 293) 895 = .ok (.aload_n 0, 1) := by decide +kernel
set_option maxRecDepth 20000 in
theorem d_293_896 : decode (js_b 293) 896 = .ok (.iload 5, 2) := by decide +kernel
set_option maxRecDepth 20000 in
theorem d_293_898 : decode (js_b 293) 898 = .ok (.iconst 3, 1) := by decide +kernel
set_option maxRecDepth 20000 in
theorem d_293_899 : decode (js_b 293) 899 = .ok (.iadd, 1) := by decide +kernel
set_option maxRecDepth 20000 in
theorem d_293_900 : decode (js_b 293) 900 = .ok (.iaload, 1) := by decide +kernel
set_option maxRecDepth 20000 in
theorem d_293_901 : decode (js_b 293) 901 = .ok (.invokevirtual 204, 3) := by decide +kernel
set_option maxRecDepth 20000 in
theorem d_293_904 : decode (js_b 293) 904 = .ok (.istore 7, 2) := by decide +kernel
set_option maxRecDepth 20000 in
theorem d_293_906 : decode (js_b 293) 906 = .ok (.aload_n 2, 1) := by decide +kernel
set_option maxRecDepth 20000 in
theorem d_293_907 : decode (js_b 293) 907 = .ok (.invokevirtual 159, 3) := by decide +kernel
set_option maxRecDepth 20000 in
theorem d_293_910 : decode (js_b 293) 910 = .ok (.iload 6, 2) := by decide +kernel
set_option maxRecDepth 20000 in
theorem d_293_912 : decode (js_b 293) 912 = .ok (.if_icmp .eq 5, 3) := by decide +kernel
set_option maxRecDepth 20000 in
theorem d_293_915 : decode (js_b 293) 915 = .ok (.iconst 0, 1) := by decide +kernel
set_option maxRecDepth 20000 in
theorem d_293_916 : decode (js_b 293) 916 = .ok (.ireturn, 1) := by decide +kernel
set_option maxRecDepth 20000 in
theorem d_293_917 : decode (js_b 293) 917 = .ok (.iload 6, 2) := by decide +kernel
set_option maxRecDepth 20000 in
theorem d_293_919 : decode (js_b 293) 919 = .ok (.ifCond .ne 15, 3) := by decide +kernel
set_option maxRecDepth 20000 in
theorem d_293_922 : decode (js_b 293) 922 = .ok (.aload_n 3, 1) := by decide +kernel
set_option maxRecDepth 20000 in
theorem d_293_923 : decode (js_b 293) 923 = .ok (.iconst 0, 1) := by decide +kernel
set_option maxRecDepth 20000 in
theorem d_293_924 : decode (js_b 293) 924 = .ok (.laload, 1) := by decide +kernel
set_option maxRecDepth 20000 in
theorem d_293_925 : decode (js_b 293) 925 = .ok (.iload 7, 2) := by decide +kernel
set_option maxRecDepth 20000 in
theorem d_293_927 : decode (js_b 293) 927 = .ok (.i2l, 1) := by decide +kernel
set_option maxRecDepth 20000 in
theorem d_293_928 : decode (js_b 293) 928 = .ok (.lcmp, 1) := by decide +kernel
set_option maxRecDepth 20000 in
theorem d_293_929 : decode (js_b 293) 929 = .ok (.ifCond .eq 5, 3) := by decide +kernel
set_option maxRecDepth 20000 in
theorem d_293_932 : decode (js_b 293) 932 = .ok (.iconst 0, 1) := by decide +kernel
set_option maxRecDepth 20000 in
theorem d_293_933 : decode (js_b 293) 933 = .ok (.ireturn, 1) := by decide +kernel
set_option maxRecDepth 20000 in
theorem d_293_934 : decode (js_b 293) 934 = .ok (.goto 1917, 3) := by decide +kernel
set_option maxRecDepth 20000 in
theorem d_293_937 : decode (js_b 293) 937 = .ok (.aload_n 1, 1) := by decide +kernel
set_option maxRecDepth 20000 in
theorem d_293_938 : decode (js_b 293) 938 = .ok (.aload_n 0, 1) := by decide +kernel
set_option maxRecDepth 20000 in
theorem d_293_939 : decode (js_b 293) 939 = .ok (.iload 5, 2) := by decide +kernel
set_option maxRecDepth 20000 in
theorem d_293_941 : decode (js_b 293) 941 = .ok (.iconst 1, 1) := by decide +kernel
set_option maxRecDepth 20000 in
theorem d_293_942 : decode (js_b 293) 942 = .ok (.iadd, 1) := by decide +kernel
set_option maxRecDepth 20000 in
theorem d_293_943 : decode (js_b 293) 943 = .ok (.iaload, 1) := by decide +kernel
set_option maxRecDepth 20000 in
theorem d_293_944 : decode (js_b 293) 944 = .ok (.aload_n 3, 1) := by decide +kernel
set_option maxRecDepth 20000 in
theorem d_293_945 : decode (js_b 293) 945 = .ok (.invokestatic 205, 3) := by decide +kernel
set_option maxRecDepth 20000 in
theorem d_293_948 : decode (js_b 293) 948 = .ok (.istore 6, 2) := by decide +kernel
set_option maxRecDepth 20000 in
theorem d_293_950 : decode (js_b 293) 950 = .ok (.aload_n 2, 1) := by decide +kernel
set_option maxRecDepth 20000 in
theorem d_293_951 : decode (js_b 293) 951 = .ok (.aload_n 0, 1) := by decide +kernel
set_option maxRecDepth 20000 in
theorem d_293_952 : decode (js_b 293) 952 = .ok (.iload 5, 2) := by decide +kernel
set_option maxRecDepth 20000 in
theorem d_293_954 : decode (js_b 293) 954 = .ok (.iconst 1, 1) := by decide +kernel
set_option maxRecDepth 20000 in
theorem d_293_955 : decode (js_b 293) 955 = .ok (.iadd, 1) := by decide +kernel
set_option maxRecDepth 20000 in
theorem d_293_956 : decode (js_b 293) 956 = .ok (.iaload, 1) := by decide +kernel
set_option maxRecDepth 20000 in
theorem d_293_957 : decode (js_b 293) 957 = .ok (.invokevirtual 207, 3) := by decide +kernel
set_option maxRecDepth 20000 in
theorem d_293_960 : decode (js_b 293) 960 = .ok (.istore 7, 2) := by decide +kernel
set_option maxRecDepth 20000 in
theorem d_293_962 : decode (js_b 293) 962 = .ok (.aload_n 2, 1) := by decide +kernel
set_option maxRecDepth 20000 in
theorem d_293_963 : decode (js_b 293) 963 = .ok (.invokevirtual 159, 3) := by decide +kernel
set_option maxRecDepth 20000 in
theorem d_293_966 : decode (js_b 293) 966 = .ok (.iload 6, 2) := by decide +kernel
set_option maxRecDepth 20000 in
theorem d_293_968 : decode (js_b 293) 968 = .ok (.if_icmp .eq 5, 3) := by decide +kernel
set_option maxRecDepth 20000 in
theorem d_293_971 : decode (js_b 293) 971 = .ok (.iconst 0, 1) := by decide +kernel
set_option maxRecDepth 20000 in
theorem d_293_972 : decode (js_b 293) 972 = .ok (.ireturn, 1) := by decide +kernel
set_option maxRecDepth 20000 in
theorem d_293_973 : decode (js_b 293) 973 = .ok (.iload 6, 2) := by decide +kernel
set_option maxRecDepth 20000 in
theorem d_293_975 : decode (js_b 293) 975 = .ok (.ifCond .ne 15, 3) := by decide +kernel
set_option maxRecDepth 20000 in
theorem d_293_978 : decode (js_b 293) 978 = .ok (.aload_n 3, 1) := by decide +kernel
set_option maxRecDepth 20000 in
theorem d_293_979 : decode (js_b 293) 979 = .ok (.iconst 0, 1) := by decide +kernel
set_option maxRecDepth 20000 in
theorem d_293_980 : decode (js_b 293) 980 = .ok (.laload, 1) := by decide +kernel
set_option maxRecDepth 20000 in
theorem d_293_981 : decode (js_b 293) 981 = .ok (.iload 7, 2) := by decide +kernel
set_option maxRecDepth 20000 in
theorem d_293_983 : decode (js_b 293) 983 = .ok (.i2l, 1) := by decide +kernel
set_option maxRecDepth 20000 in
theorem d_293_984 : decode (js_b 293) 984 = .ok (.lcmp, 1) := by decide +kernel
set_option maxRecDepth 20000 in
theorem d_293_985 : decode (js_b 293) 985 = .ok (.ifCond .eq 5, 3) := by decide +kernel
set_option maxRecDepth 20000 in
theorem d_293_988 : decode (js_b 293) 988 = .ok (.iconst 0, 1) := by decide +kernel
set_option maxRecDepth 20000 in
theorem d_293_989 : decode (js_b 293) 989 = .ok (.ireturn, 1) := by decide +kernel
set_option maxRecDepth 20000 in
theorem d_293_990 : decode (js_b 293) 990 = .ok (.goto 1861, 3) := by decide +kernel
set_option maxRecDepth 20000 in
theorem d_293_993 : decode (js_b 293) 993 = .ok (.aload_n 1, 1) := by decide +kernel
set_option maxRecDepth 20000 in
theorem d_293_994 : decode (js_b 293) 994 = .ok (.aload_n 0, 1) := by decide +kernel
set_option maxRecDepth 20000 in
theorem d_293_995 : decode (js_b 293) 995 = .ok (.iload 5, 2) := by decide +kernel
set_option maxRecDepth 20000 in
theorem d_293_997 : decode (js_b 293) 997 = .ok (.iconst 1, 1) := by decide +kernel
set_option maxRecDepth 20000 in
theorem d_293_998 : decode (js_b 293) 998 = .ok (.iadd, 1) := by decide +kernel
set_option maxRecDepth 20000 in
theorem d_293_999 : decode (js_b 293) 999 = .ok (.iaload, 1) := by decide +kernel
set_option maxRecDepth 20000 in
theorem d_293_1000 : decode (js_b 293) 1000 = .ok (.aload_n 0, 1) := by decide +kernel
set_option maxRecDepth 20000 in
theorem d_293_1001 : decode (js_b 293) 1001 = .ok (.iload 5, 2) := by decide +kernel
set_option maxRecDepth 20000 in
theorem d_293_1003 : decode (js_b 293) 1003 = .ok (.iconst 2, 1) := by decide +kernel
set_option maxRecDepth 20000 in
theorem d_293_1004 : decode (js_b 293) 1004 = .ok (.iadd, 1) := by decide +kernel
set_option maxRecDepth 20000 in
theorem d_293_1005 : decode (js_b 293) 1005 = .ok (.iaload, 1) := by decide +kernel
set_option maxRecDepth 20000 in
theorem d_293_1006 : decode (js_b 293) 1006 = .ok (.aload_n 3, 1) := by decide +kernel
set_option maxRecDepth 20000 in
theorem d_293_1007 : decode (js_b 293) 1007 = .ok (.invokestatic 208, 3) := by decide +kernel
set_option maxRecDepth 20000 in
theorem d_293_1010 : decode (js_b 293) 1010 = .ok (.istore 6, 2) := by decide +kernel
set_option maxRecDepth 20000 in
theorem d_293_1012 : decode (js_b 293) 1012 = .ok (.aload_n 2, 1) := by decide +kernel
set_option maxRecDepth 20000 in
theorem d_293_1013 : decode (js_b 293) 1013 = .ok (.aload_n 0, 1) := by decide +kernel
set_option maxRecDepth 20000 in
theorem d_293_1014 : decode (js_b 293) 1014 = .ok (.iload 5, 2) := by decide +kernel
set_option maxRecDepth 20000 in
theorem d_293_1016 : decode (js_b 293) 1016 = .ok (.iconst 1, 1) := by decide +kernel
set_option maxRecDepth 20000 in
theorem d_293_1017 : decode (js_b 293) 1017 = .ok (.iadd, 1) := by decide +kernel
set_option maxRecDepth 20000 in
theorem d_293_1018 : decode (js_b 293) 1018 = .ok (.iaload, 1) := by decide +kernel
set_option maxRecDepth 20000 in
theorem d_293_1019 : decode (js_b 293) 1019 = .ok (.aload_n 0, 1) := by decide +kernel
set_option maxRecDepth 20000 in
theorem d_293_1020 : decode (js_b 293) 1020 = .ok (.iload 5, 2) := by decide +kernel
set_option maxRecDepth 20000 in
theorem d_293_1022 : decode (js_b 293) 1022 = .ok (.iconst 2, 1) := by decide +kernel
set_option maxRecDepth 20000 in
theorem d_293_1023 : decode (js_b 293) 1023 = .ok (.iadd, 1) := by decide +kernel
set_option maxRecDepth 20000 in
theorem d_293_1024 : decode (js_b 293) 1024 = .ok (.iaload, 1) := by decide +kernel
set_option maxRecDepth 20000 in
theorem d_293_1025 : decode (js_b 293) 1025 = .ok (.invokevirtual 210, 3) := by decide +kernel
set_option maxRecDepth 20000 in
theorem d_293_1028 : decode (js_b 293) 1028 = .ok (.istore 7, 2) := by decide +kernel
set_option maxRecDepth 20000 in
theorem d_293_1030 : decode (js_b 293) 1030 = .ok (.aload_n 2, 1) := by decide +kernel
set_option maxRecDepth 20000 in
theorem d_293_1031 : decode (js_b 293) 1031 = .ok (.invokevirtual 159, 3) := by decide +kernel
set_option maxRecDepth 20000 in
theorem d_293_1034 : decode (js_b 293) 1034 = .ok (.iload 6, 2) := by decide +kernel
set_option maxRecDepth 20000 in
theorem d_293_1036 : decode (js_b 293) 1036 = .ok (.if_icmp .eq 5, 3) := by decide +kernel
set_option maxRecDepth 20000 in
theorem d_293_1039 : decode (js_b 293) 1039 = .ok (.iconst 0, 1) := by decide +kernel
set_option maxRecDepth 20000 in
theorem d_293_1040 : decode (js_b 293) 1040 = .ok (.ireturn, 1) := by decide +kernel
set_option maxRecDepth 20000 in
theorem d_293_1041 : decode (js_b 293) 1041 = .ok (.iload 6, 2) := by decide +kernel
set_option maxRecDepth 20000 in
theorem d_293_1043 : decode (js_b 293) 1043 = .ok (.ifCond .ne 15, 3) := by decide +kernel
set_option maxRecDepth 20000 in
theorem d_293_1046 : decode (js_b 293) 1046 = .ok (.aload_n 3, 1) := by decide +kernel
set_option maxRecDepth 20000 in
theorem d_293_1047 : decode (js_b 293) 1047 = .ok (.iconst 0, 1) := by decide +kernel
set_option maxRecDepth 20000 in
theorem d_293_1048 : decode (js_b 293) 1048 = .ok (.laload, 1) := by decide +kernel
set_option maxRecDepth 20000 in
theorem d_293_1049 : decode (js_b 293) 1049 = .ok (.iload 7, 2) := by decide +kernel
set_option maxRecDepth 20000 in
theorem d_293_1051 : decode (js_b 293) 1051 = .ok (.i2l, 1) := by decide +kernel
set_option maxRecDepth 20000 in
theorem d_293_1052 : decode (js_b 293) 1052 = .ok (.lcmp, 1) := by decide +kernel
set_option maxRecDepth 20000 in
theorem d_293_1053 : decode (js_b 293) 1053 = .ok (.ifCond .eq 5, 3) := by decide +kernel
set_option maxRecDepth 20000 in
theorem d_293_1056 : decode (js_b 293) 1056 = .ok (.iconst 0, 1) := by decide +kernel
set_option maxRecDepth 20000 in
theorem d_293_1057 : decode (js_b 293) 1057 = .ok (.ireturn, 1) := by decide +kernel
set_option maxRecDepth 20000 in
theorem d_293_1058 : decode (js_b 293) 1058 = .ok (.goto 1793, 3) := by decide +kernel
set_option maxRecDepth 20000 in
theorem d_293_1061 : decode (js_b 293) 1061 = .ok (.aload_n 1, 1) := by decide +kernel
set_option maxRecDepth 20000 in
theorem d_293_1062 : decode (js_b 293) 1062 = .ok (.aload_n 0, 1) := by decide +kernel
set_option maxRecDepth 20000 in
theorem d_293_1063 : decode (js_b 293) 1063 = .ok (.iload 5, 2) := by decide +kernel
set_option maxRecDepth 20000 in
theorem d_293_1065 : decode (js_b 293) 1065 = .ok (.iconst 1, 1) := by decide +kernel
set_option maxRecDepth 20000 in
theorem d_293_1066 : decode (js_b 293) 1066 = .ok (.iadd, 1) := by decide +kernel
set_option maxRecDepth 20000 in
theorem d_293_1067 : decode (js_b 293) 1067 = .ok (.iaload, 1) := by decide +kernel
set_option maxRecDepth 20000 in
theorem d_293_1068 : decode (js_b 293) 1068 = .ok (.aload_n 0, 1) := by decide +kernel
set_option maxRecDepth 20000 in
theorem d_293_1069 : decode (js_b 293) 1069 = .ok (.iload 5, 2) := by decide +kernel
set_option maxRecDepth 20000 in
theorem d_293_1071 : decode (js_b 293) 1071 = .ok (.iconst 2, 1) := by decide +kernel
set_option maxRecDepth 20000 in
theorem d_293_1072 : decode (js_b 293) 1072 = .ok (.iadd, 1) := by decide +kernel
set_option maxRecDepth 20000 in
theorem d_293_1073 : decode (js_b 293) 1073 = .ok (.iaload, 1) := by decide +kernel
set_option maxRecDepth 20000 in
theorem d_293_1074 : decode (js_b 293) 1074 = .ok (.aload_n 3, 1) := by decide +kernel
set_option maxRecDepth 20000 in
theorem d_293_1075 : decode (js_b 293) 1075 = .ok (.invokestatic 211, 3) := by decide +kernel
set_option maxRecDepth 20000 in
theorem d_293_1078 : decode (js_b 293) 1078 = .ok (.istore 6, 2) := by decide +kernel
set_option maxRecDepth 20000 in
theorem d_293_1080 : decode (js_b 293) 1080 = .ok (.aload_n 2, 1) := by decide +kernel
set_option maxRecDepth 20000 in
theorem d_293_1081 : decode (js_b 293) 1081 = .ok (.aload_n 0, 1) := by decide +kernel
set_option maxRecDepth 20000 in
theorem d_293_1082 : decode (js_b 293) 1082 = .ok (.iload 5, 2) := by decide +kernel
set_option maxRecDepth 20000 in
theorem d_293_1084 : decode (js_b 293) 1084 = .ok (.iconst 1, 1) := by decide +kernel
set_option maxRecDepth 20000 in
theorem d_293_1085 : decode (js_b 293) 1085 = .ok (.iadd, 1) := by decide +kernel
set_option maxRecDepth 20000 in
theorem d_293_1086 : decode (js_b 293) 1086 = .ok (.iaload, 1) := by decide +kernel
set_option maxRecDepth 20000 in
theorem d_293_1087 : decode (js_b 293) 1087 = .ok (.aload_n 0, 1) := by decide +kernel
set_option maxRecDepth 20000 in
theorem d_293_1088 : decode (js_b 293) 1088 = .ok (.iload 5, 2) := by decide +kernel
set_option maxRecDepth 20000 in
theorem d_293_1090 : decode (js_b 293) 1090 = .ok (.iconst 2, 1) := by decide +kernel
set_option maxRecDepth 20000 in
theorem d_293_1091 : decode (js_b 293) 1091 = .ok (.iadd, 1) := by decide +kernel
set_option maxRecDepth 20000 in
theorem d_293_1092 : decode (js_b 293) 1092 = .ok (.iaload, 1) := by decide +kernel
set_option maxRecDepth 20000 in
theorem d_293_1093 : decode (js_b 293) 1093 = .ok (.invokevirtual 213, 3) := by decide +kernel
set_option maxRecDepth 20000 in
theorem d_293_1096 : decode (js_b 293) 1096 = .ok (.istore 7, 2) := by decide +kernel
set_option maxRecDepth 20000 in
theorem d_293_1098 : decode (js_b 293) 1098 = .ok (.aload_n 2, 1) := by decide +kernel
set_option maxRecDepth 20000 in
theorem d_293_1099 : decode (js_b 293) 1099 = .ok (.invokevirtual 159, 3) := by decide +kernel
set_option maxRecDepth 20000 in
theorem d_293_1102 : decode (js_b 293) 1102 = .ok (.iload 6, 2) := by decide +kernel
set_option maxRecDepth 20000 in
theorem d_293_1104 : decode (js_b 293) 1104 = .ok (.if_icmp .eq 5, 3) := by decide +kernel
set_option maxRecDepth 20000 in
theorem d_293_1107 : decode (js_b 293) 1107 = .ok (.iconst 0, 1) := by decide +kernel
set_option maxRecDepth 20000 in
theorem d_293_1108 : decode (js_b 293) 1108 = .ok (.ireturn, 1) := by decide +kernel
set_option maxRecDepth 20000 in
theorem d_293_1109 : decode (js_b 293) 1109 = .ok (.iload 6, 2) := by decide +kernel
set_option maxRecDepth 20000 in
theorem d_293_1111 : decode (js_b 293) 1111 = .ok (.ifCond .ne 15, 3) := by decide +kernel
set_option maxRecDepth 20000 in
theorem d_293_1114 : decode (js_b 293) 1114 = .ok (.aload_n 3, 1) := by decide +kernel
set_option maxRecDepth 20000 in
theorem d_293_1115 : decode (js_b 293) 1115 = .ok (.iconst 0, 1) := by decide +kernel
set_option maxRecDepth 20000 in
theorem d_293_1116 : decode (js_b 293) 1116 = .ok (.laload, 1) := by decide +kernel
set_option maxRecDepth 20000 in
theorem d_293_1117 : decode (js_b 293) 1117 = .ok (.iload 7, 2) := by decide +kernel
set_option maxRecDepth 20000 in
theorem d_293_1119 : decode (js_b 293) 1119 = .ok (.i2l, 1) := by decide +kernel
set_option maxRecDepth 20000 in
theorem d_293_1120 : decode (js_b 293) 1120 = .ok (.lcmp, 1) := by decide +kernel
set_option maxRecDepth 20000 in
theorem d_293_1121 : decode (js_b 293) 1121 = .ok (.ifCond .eq 5, 3) := by decide +kernel
set_option maxRecDepth 20000 in
theorem d_293_1124 : decode (js_b 293) 1124 = .ok (.iconst 0, 1) := by decide +kernel
set_option maxRecDepth 20000 in
theorem d_293_1125 : decode (js_b 293) 1125 = .ok (.ireturn, 1) := by decide +kernel
set_option maxRecDepth 20000 in
theorem d_293_1126 : decode (js_b 293) 1126 = .ok (.goto 1725, 3) := by decide +kernel
set_option maxRecDepth 20000 in
theorem d_293_1129 : decode (js_b 293) 1129 = .ok (.aload_n 1, 1) := by decide +kernel
set_option maxRecDepth 20000 in
theorem d_293_1130 : decode (js_b 293) 1130 = .ok (.aload_n 0, 1) := by decide +kernel
set_option maxRecDepth 20000 in
theorem d_293_1131 : decode (js_b 293) 1131 = .ok (.iload 5, 2) := by decide +kernel
set_option maxRecDepth 20000 in
theorem d_293_1133 : decode (js_b 293) 1133 = .ok (.iconst 1, 1) := by decide +kernel
set_option maxRecDepth 20000 in
theorem d_293_1134 : decode (js_b 293) 1134 = .ok (.iadd, 1) := by decide +kernel
set_option maxRecDepth 20000 in
theorem d_293_1135 : decode (js_b 293) 1135 = .ok (.iaload, 1) := by decide +kernel
set_option maxRecDepth 20000 in
theorem d_293_1136 : decode (js_b 293) 1136 = .ok (.aload_n 0, 1) := by decide +kernel
set_option maxRecDepth 20000 in
theorem d_293_1137 : decode (js_b 293) 1137 = .ok (.iload 5, 2) := by decide +kernel
set_option maxRecDepth 20000 in
theorem d_293_1139 : decode (js_b 293) 1139 = .ok (.iconst 2, 1) := by decide +kernel
set_option maxRecDepth 20000 in
theorem d_293_1140 : decode (js_b 293) 1140 = .ok (.iadd, 1) := by decide +kernel
set_option maxRecDepth 20000 in
theorem d_293_1141 : decode (js_b 293) 1141 = .ok (.iaload, 1) := by decide +kernel
set_option maxRecDepth 20000 in
theorem d_293_1142 : decode (js_b 293) 1142 = .ok (.aload_n 3, 1) := by decide +kernel
set_option maxRecDepth 20000 in
theorem d_293_1143 : decode (js_b 293) 1143 = .ok (.invokestatic 214, 3) := by decide +kernel
set_option maxRecDepth 20000 in
theorem d_293_1146 : decode (js_b 293) 1146 = .ok (.istore 6, 2) := by decide +kernel
set_option maxRecDepth 20000 in
theorem d_293_1148 : decode (js_b 293) 1148 = .ok (.aload_n 2, 1) := by decide +kernel
set_option maxRecDepth 20000 in
theorem d_293_1149 : decode (js_b 293) 1149 = .ok (.aload_n 0, 1) := by decide +kernel
set_option maxRecDepth 20000 in
theorem d_293_1150 : decode (js_b 293) 1150 = .ok (.iload 5, 2) := by decide +kernel
set_option maxRecDepth 20000 in
theorem d_293_1152 : decode (js_b 293) 1152 = .ok (.iconst 1, 1) := by decide +kernel
set_option maxRecDepth 20000 in
theorem d_293_1153 : decode (js_b 293) 1153 = .ok (.iadd, 1) := by decide +kernel
set_option maxRecDepth 20000 in
theorem d_293_1154 : decode (js_b 293) 1154 = .ok (.iaload, 1) := by decide +kernel
set_option maxRecDepth 20000 in
theorem d_293_1155 : decode (js_b 293) 1155 = .ok (.aload_n 0, 1) := by decide +kernel
set_option maxRecDepth 20000 in
theorem d_293_1156 : decode (js_b 293) 1156 = .ok (.iload 5, 2) := by decide +kernel
set_option maxRecDepth 20000 in
theorem d_293_1158 : decode (js_b 293) 1158 = .ok (.iconst 2, 1) := by decide +kernel
set_option maxRecDepth 20000 in
theorem d_293_1159 : decode (js_b 293) 1159 = .ok (.iadd, 1) := by decide +kernel
set_option maxRecDepth 20000 in
theorem d_293_1160 : decode (js_b 293) 1160 = .ok (.iaload, 1) := by decide +kernel
set_option maxRecDepth 20000 in
theorem d_293_1161 : decode (js_b 293) 1161 = .ok (.invokevirtual 216, 3) := by decide +kernel
set_option maxRecDepth 20000 in
theorem d_293_1164 : decode (js_b 293) 1164 = .ok (.istore 7, 2) := by decide +kernel
set_option maxRecDepth 20000 in
theorem d_293_1166 : decode (js_b 293) 1166 = .ok (.aload_n 2, 1) := by decide +kernel
set_option maxRecDepth 20000 in
theorem d_293_1167 : decode (js_b 293) 1167 = .ok (.invokevirtual 159, 3) := by decide +kernel
set_option maxRecDepth 20000 in
theorem d_293_1170 : decode (js_b 293) 1170 = .ok (.iload 6, 2) := by decide +kernel
set_option maxRecDepth 20000 in
theorem d_293_1172 : decode (js_b 293) 1172 = .ok (.if_icmp .eq 5, 3) := by decide +kernel
set_option maxRecDepth 20000 in
theorem d_293_1175 : decode (js_b 293) 1175 = .ok (.iconst 0, 1) := by decide +kernel
set_option maxRecDepth 20000 in
theorem d_293_1176 : decode (js_b 293) 1176 = .ok (.ireturn, 1) := by decide +kernel
set_option maxRecDepth 20000 in
theorem d_293_1177 : decode (js_b 293) 1177 = .ok (.iload 6, 2) := by decide +kernel
set_option maxRecDepth 20000 in
theorem d_293_1179 : decode (js_b 293) 1179 = .ok (.ifCond .ne 15, 3) := by decide +kernel
set_option maxRecDepth 20000 in
theorem d_293_1182 : decode (js_b 293) 1182 = .ok (.aload_n 3, 1) := by decide +kernel
set_option maxRecDepth 20000 in
theorem d_293_1183 : decode (js_b 293) 1183 = .ok (.iconst 0, 1) := by decide +kernel
set_option maxRecDepth 20000 in
theorem d_293_1184 : decode (js_b 293) 1184 = .ok (.laload, 1) := by decide +kernel
set_option maxRecDepth 20000 in
theorem d_293_1185 : decode (js_b 293) 1185 = .ok (.iload 7, 2) := by decide +kernel
set_option maxRecDepth 20000 in
theorem d_293_1187 : decode (js_b 293) 1187 = .ok (.i2l, 1) := by decide +kernel
set_option maxRecDepth 20000 in
theorem d_293_1188 : decode (js_b 293) 1188 = .ok (.lcmp, 1) := by decide +kernel
set_option maxRecDepth 20000 in
theorem d_293_1189 : decode (js_b 293) 1189 = .ok (.ifCond .eq 5, 3) := by decide +kernel
set_option maxRecDepth 20000 in
theorem d_293_1192 : decode (js_b 293) 1192 = .ok (.iconst 0, 1) := by decide +kernel
set_option maxRecDepth 20000 in
theorem d_293_1193 : decode (js_b 293) 1193 = .ok (.ireturn, 1) := by decide +kernel
set_option maxRecDepth 20000 in
theorem d_293_1194 : decode (js_b 293) 1194 = .ok (.goto 1657, 3) := by decide +kernel
set_option maxRecDepth 20000 in
theorem d_293_1197 : decode (js_b 293) 1197 = .ok (.aload_n 1, 1) := by decide +kernel
set_option maxRecDepth 20000 in
theorem d_293_1198 : decode (js_b 293) 1198 = .ok (.invokevirtual 217, 3) := by decide +kernel
set_option maxRecDepth 20000 in
theorem d_293_1201 : decode (js_b 293) 1201 = .ok (.aload_n 2, 1) := by decide +kernel
set_option maxRecDepth 20000 in
theorem d_293_1202 : decode (js_b 293) 1202 = .ok (.invokevirtual 220, 3) := by decide +kernel
set_option maxRecDepth 20000 in
theorem d_293_1205 : decode (js_b 293) 1205 = .ok (.if_icmp .eq 1646, 3) := by decide +kernel
set_option maxRecDepth 20000 in
theorem d_293_1208 : decode (js_b 293) 1208 = .ok (.iconst 0, 1) := by decide +kernel
set_option maxRecDepth 20000 in
theorem d_293_1209 : decode (js_b 293) 1209 = .ok (.ireturn, 1) := by decide +kernel
set_option maxRecDepth 20000 in
theorem d_293_1210 : decode (js_b 293) 1210 = .ok (.aload_n 1, 1) := by decide +kernel
set_option maxRecDepth 20000 in
theorem d_293_1211 : decode (js_b 293) 1211 = .ok (.aload_n 0, 1) := by decide +kernel
set_option maxRecDepth 20000 in
theorem d_293_1212 : decode (js_b 293) 1212 = .ok (.iload 5, 2) := by decide +kernel
set_option maxRecDepth 20000 in
theorem d_293_1214 : decode (js_b 293) 1214 = .ok (.iconst 1, 1) := by decide +kernel
set_option maxRecDepth 20000 in
theorem d_293_1215 : decode (js_b 293) 1215 = .ok (.iadd, 1) := by decide +kernel
set_option maxRecDepth 20000 in
theorem d_293_1216 : decode (js_b 293) 1216 = .ok (.iaload, 1) := by decide +kernel
set_option maxRecDepth 20000 in
theorem d_293_1217 : decode (js_b 293) 1217 = .ok (.aload_n 0, 1) := by decide +kernel
set_option maxRecDepth 20000 in
theorem d_293_1218 : decode (js_b 293) 1218 = .ok (.iload 5, 2) := by decide +kernel
set_option maxRecDepth 20000 in
theorem d_293_1220 : decode (js_b 293) 1220 = .ok (.iconst 2, 1) := by decide +kernel
set_option maxRecDepth 20000 in
theorem d_293_1221 : decode (js_b 293) 1221 = .ok (.iadd, 1) := by decide +kernel
set_option maxRecDepth 20000 in
theorem d_293_1222 : decode (js_b 293) 1222 = .ok (.iaload, 1) := by decide +kernel
set_option maxRecDepth 20000 in
theorem d_293_1223 : decode (js_b 293) 1223 = .ok (.aload_n 3, 1) := by decide +kernel
set_option maxRecDepth 20000 in
theorem d_293_1224 : decode (js_b 293) 1224 = .ok (.invokestatic 221, 3) := by decide +kernel
set_option maxRecDepth 20000 in
theorem d_293_1227 : decode (js_b 293) 1227 = .ok (.istore 6, 2) := by decide +kernel
set_option maxRecDepth 20000 in
theorem d_293_1229 : decode (js_b 293) 1229 = .ok (.aload_n 2, 1) := by decide +kernel
set_option maxRecDepth 20000 in
theorem d_293_1230 : decode (js_b 293) 1230 = .ok (.aload_n 0, 1) := by decide +kernel
set_option maxRecDepth 20000 in
theorem d_293_1231 : decode (js_b 293) 1231 = .ok (.iload 5, 2) := by decide +kernel
set_option maxRecDepth 20000 in
theorem d_293_1233 : decode (js_b 293) 1233 = .ok (.iconst 1, 1) := by decide +kernel
set_option maxRecDepth 20000 in
theorem d_293_1234 : decode (js_b 293) 1234 = .ok (.iadd, 1) := by decide +kernel
set_option maxRecDepth 20000 in
theorem d_293_1235 : decode (js_b 293) 1235 = .ok (.iaload, 1) := by decide +kernel
set_option maxRecDepth 20000 in
theorem d_293_1236 : decode (js_b 293) 1236 = .ok (.aload_n 0, 1) := by decide +kernel
set_option maxRecDepth 20000 in
theorem d_293_1237 : decode (js_b 293) 1237 = .ok (.iload 5, 2) := by decide +kernel
set_option maxRecDepth 20000 in
theorem d_293_1239 : decode (js_b 293) 1239 = .ok (.iconst 2, 1) := by decide +kernel
set_option maxRecDepth 20000 in
theorem d_293_1240 : decode (js_b 293) 1240 = .ok (.iadd, 1) := by decide +kernel
set_option maxRecDepth 20000 in
theorem d_293_1241 : decode (js_b 293) 1241 = .ok (.iaload, 1) := by decide +kernel
set_option maxRecDepth 20000 in
theorem d_293_1242 : decode (js_b 293) 1242 = .ok (.invokevirtual 223, 3) := by decide +kernel
set_option maxRecDepth 20000 in
theorem d_293_1245 : decode (js_b 293) 1245 = .ok (.istore 7, 2) := by decide +kernel
set_option maxRecDepth 20000 in
theorem d_293_1247 : decode (js_b 293) 1247 = .ok (.aload_n 2, 1) := by decide +kernel
set_option maxRecDepth 20000 in
theorem d_293_1248 : decode (js_b 293) 1248 = .ok (.invokevirtual 159, 3) := by decide +kernel
set_option maxRecDepth 20000 in
theorem d_293_1251 : decode (js_b 293) 1251 = .ok (.iload 6, 2) := by decide +kernel
set_option maxRecDepth 20000 in
theorem d_293_1253 : decode (js_b 293) 1253 = .ok (.if_icmp .eq 5, 3) := by decide +kernel
set_option maxRecDepth 20000 in
theorem d_293_1256 : decode (js_b 293) 1256 = .ok (.iconst 0, 1) := by decide +kernel
set_option maxRecDepth 20000 in
theorem d_293_1257 : decode (js_b 293) 1257 = .ok (.ireturn, 1) := by decide +kernel
set_option maxRecDepth 20000 in
theorem d_293_1258 : decode (js_b 293) 1258 = .ok (.iload 6, 2) := by decide +kernel
set_option maxRecDepth 20000 in
theorem d_293_1260 : decode (js_b 293) 1260 = .ok (.ifCond .ne 22, 3) := by decide +kernel
set_option maxRecDepth 20000 in
theorem d_293_1263 : decode (js_b 293) 1263 = .ok (.aload_n 3, 1) := by decide +kernel
set_option maxRecDepth 20000 in
theorem d_293_1264 : decode (js_b 293) 1264 = .ok (.iconst 0, 1) := by decide +kernel
set_option maxRecDepth 20000 in
theorem d_293_1265 : decode (js_b 293) 1265 = .ok (.laload, 1) := by decide +kernel
set_option maxRecDepth 20000 in
theorem d_293_1266 : decode (js_b 293) 1266 = .ok (.iload 7, 2) := by decide +kernel
set_option maxRecDepth 20000 in
theorem d_293_1268 : decode (js_b 293) 1268 = .ok (.ifCond .eq 7, 3) := by decide +kernel
set_option maxRecDepth 20000 in
theorem d_293_1271 : decode (js_b 293) 1271 = .ok (.lconst 1, 1) := by decide +kernel
set_option maxRecDepth 20000 in
theorem d_293_1272 : decode (js_b 293) 1272 = .ok (.goto 4, 3) := by decide +kernel
set_option maxRecDepth 20000 in
theorem d_293_1275 : decode (js_b 293) 1275 = .ok (.lconst 0, 1) := by decide +kernel
set_option maxRecDepth 20000 in
theorem d_293_1276 : decode (js_b 293) 1276 = .ok (.lcmp, 1) := by decide +kernel
set_option maxRecDepth 20000 in
theorem d_293_1277 : decode (js_b 293) 1277 = .ok (.ifCond .eq 5, 3) := by decide +kernel
set_option maxRecDepth 20000 in
theorem d_293_1280 : decode (js_b 293) 1280 = .ok (.iconst 0, 1) := by decide +kernel
set_option maxRecDepth 20000 in
theorem d_293_1281 : decode (js_b 293) 1281 = .ok (.ireturn, 1) := by decide +kernel
set_option maxRecDepth 20000 in
theorem d_293_1282 : decode (js_b 293) 1282 = .ok (.goto 1569, 3) := by decide +kernel
set_option maxRecDepth 20000 in
theorem d_293_1285 : decode (js_b 293) 1285 = .ok (.aload_n 1, 1) := by decide +kernel
set_option maxRecDepth 20000 in
theorem d_293_1286 : decode (js_b 293) 1286 = .ok (.aload_n 0, 1) := by decide +kernel
set_option maxRecDepth 20000 in
theorem d_293_1287 : decode (js_b 293) 1287 = .ok (.iload 5, 2) := by decide +kernel
set_option maxRecDepth 20000 in
theorem d_293_1289 : decode (js_b 293) 1289 = .ok (.iconst 1, 1) := by decide +kernel
set_option maxRecDepth 20000 in
theorem d_293_1290 : decode (js_b 293) 1290 = .ok (.iadd, 1) := by decide +kernel
set_option maxRecDepth 20000 in
theorem d_293_1291 : decode (js_b 293) 1291 = .ok (.iaload, 1) := by decide +kernel
set_option maxRecDepth 20000 in
theorem d_293_1292 : decode (js_b 293) 1292 = .ok (.aload_n 0, 1) := by decide +kernel
set_option maxRecDepth 20000 in
theorem d_293_1293 : decode (js_b 293) 1293 = .ok (.iload 5, 2) := by decide +kernel
set_option maxRecDepth 20000 in
theorem d_293_1295 : decode (js_b 293) 1295 = .ok (.iconst 2, 1) := by decide +kernel
set_option maxRecDepth 20000 in
theorem d_293_1296 : decode (js_b 293) 1296 = .ok (.iadd, 1) := by decide +kernel
set_option maxRecDepth 20000 in
theorem d_293_1297 : decode (js_b 293) 1297 = .ok (.iaload, 1) := by decide +kernel
set_option maxRecDepth 20000 in
theorem d_293_1298 : decode (js_b 293) 1298 = .ok (.aload_n 3, 1) := by decide +kernel
set_option maxRecDepth 20000 in
theorem d_293_1299 : decode (js_b 293) 1299 = .ok (.invokestatic 224, 3) := by decide +kernel
set_option maxRecDepth 20000 in
theorem d_293_1302 : decode (js_b 293) 1302 = .ok (.istore 6, 2) := by decide +kernel
set_option maxRecDepth 20000 in
theorem d_293_1304 : decode (js_b 293) 1304 = .ok (.aload_n 2, 1) := by decide +kernel
set_option maxRecDepth 20000 in
theorem d_293_1305 : decode (js_b 293) 1305 = .ok (.aload_n 0, 1) := by decide +kernel
set_option maxRecDepth 20000 in
theorem d_293_1306 : decode (js_b 293) 1306 = .ok (.iload 5, 2) := by decide +kernel
set_option maxRecDepth 20000 in
theorem d_293_1308 : decode (js_b 293) 1308 = .ok (.iconst 1, 1) := by decide +kernel
set_option maxRecDepth 20000 in
theorem d_293_1309 : decode (js_b 293) 1309 = .ok (.iadd, 1) := by decide +kernel
set_option maxRecDepth 20000 in
theorem d_293_1310 : decode (js_b 293) 1310 = .ok (.iaload, 1) := by decide +kernel
set_option maxRecDepth 20000 in
theorem d_293_1311 : decode (js_b 293) 1311 = .ok (.aload_n 0, 1) := by decide +kernel
set_option maxRecDepth 20000 in
theorem d_293_1312 : decode (js_b 293) 1312 = .ok (.iload 5, 2) := by decide +kernel
set_option maxRecDepth 20000 in
theorem d_293_1314 : decode (js_b 293) 1314 = .ok (.iconst 2, 1) := by decide +kernel
set_option maxRecDepth 20000 in
theorem d_293_1315 : decode (js_b 293) 1315 = .ok (.iadd, 1) := by decide +kernel
set_option maxRecDepth 20000 in
theorem d_293_1316 : decode (js_b 293) 1316 = .ok (.iaload, 1) := by decide +kernel
set_option maxRecDepth 20000 in
theorem d_293_1317 : decode (js_b 293) 1317 = .ok (.invokevirtual 226, 3) := by decide +kernel
set_option maxRecDepth 20000 in
theorem d_293_1320 : decode (js_b 293) 1320 = .ok (.istore 7, 2) := by decide +kernel
set_option maxRecDepth 20000 in
theorem d_293_1322 : decode (js_b 293) 1322 = .ok (.aload_n 2, 1) := by decide +kernel
set_option maxRecDepth 20000 in
theorem d_293_1323 : decode (js_b 293) 1323 = .ok (.invokevirtual 159, 3) := by decide +kernel
set_option maxRecDepth 20000 in
theorem d_293_1326 : decode (js_b 293) 1326 = .ok (.iload 6, 2) := by decide +kernel
set_option maxRecDepth 20000 in
theorem d_293_1328 : decode (js_b 293) 1328 = .ok (.if_icmp .eq 5, 3) := by decide +kernel
set_option maxRecDepth 20000 in
theorem d_293_1331 : decode (js_b 293) 1331 = .ok (.iconst 0, 1) := by decide +kernel
set_option maxRecDepth 20000 in
theorem d_293_1332 : decode (js_b 293) 1332 = .ok (.ireturn, 1) := by decide +kernel
set_option maxRecDepth 20000 in
theorem d_293_1333 : decode (js_b 293) 1333 = .ok (.iload 6, 2) := by decide +kernel
set_option maxRecDepth 20000 in
theorem d_293_1335 : decode (js_b 293) 1335 = .ok (.ifCond .ne 15, 3) := by decide +kernel
set_option maxRecDepth 20000 in
theorem d_293_1338 : decode (js_b 293) 1338 = .ok (.aload_n 3, 1) := by decide +kernel
set_option maxRecDepth 20000 in
theorem d_293_1339 : decode (js_b 293) 1339 = .ok (.iconst 0, 1) := by decide +kernel
set_option maxRecDepth 20000 in
theorem d_293_1340 : decode (js_b 293) 1340 = .ok (.laload, 1) := by decide +kernel
set_option maxRecDepth 20000 in
theorem d_293_1341 : decode (js_b 293) 1341 = .ok (.iload 7, 2) := by decide +kernel
set_option maxRecDepth 20000 in
theorem d_293_1343 : decode (js_b 293) 1343 = .ok (.i2l, 1) := by decide +kernel
set_option maxRecDepth 20000 in
theorem d_293_1344 : decode (js_b 293) 1344 = .ok (.lcmp, 1) := by decide +kernel
set_option maxRecDepth 20000 in
theorem d_293_1345 : decode (js_b 293) 1345 = .ok (.ifCond .eq 5, 3) := by decide +kernel
set_option maxRecDepth 20000 in
theorem d_293_1348 : decode (js_b 293) 1348 = .ok (.iconst 0, 1) := by decide +kernel
set_option maxRecDepth 20000 in
theorem d_293_1349 : decode (js_b 293) 1349 = .ok (.ireturn, 1) := by decide +kernel
set_option maxRecDepth 20000 in
theorem d_293_1350 : decode (js_b 293) 1350 = .ok (.goto 1501, 3) := by decide +kernel
set_option maxRecDepth 20000 in
theorem d_293_1353 : decode (js_b 293) 1353 = .ok (.aload_n 1, 1) := by decide +kernel
set_option maxRecDepth 20000 in
theorem d_293_1354 : decode (js_b 293) 1354 = .ok (.invokevirtual 227, 3) := by decide +kernel
set_option maxRecDepth 20000 in
theorem d_293_1357 : decode (js_b 293) 1357 = .ok (.aload_n 2, 1) := by decide +kernel
set_option maxRecDepth 20000 in
theorem d_293_1358 : decode (js_b 293) 1358 = .ok (.invokevirtual 231, 3) := by decide +kernel
set_option maxRecDepth 20000 in
theorem d_293_1361 : decode (js_b 293) 1361 = .ok (.lcmp, 1) := by decide +kernel
set_option maxRecDepth 20000 in
theorem d_293_1362 : decode (js_b 293) 1362 = .ok (.ifCond .eq 1489, 3) := by decide +kernel
set_option maxRecDepth 20000 in
theorem d_293_1365 : decode (js_b 293) 1365 = .ok (.iconst 0, 1) := by decide +kernel
set_option maxRecDepth 20000 in
theorem d_293_1366 : decode (js_b 293) 1366 = .ok (.ireturn, 1) := by decide +kernel
set_option maxRecDepth 20000 in
theorem d_293_1367 : decode (js_b 293) 1367 = .ok (.aload_n 1, 1) := by decide +kernel
set_option maxRecDepth 20000 in
theorem d_293_1368 : decode (js_b 293) 1368 = .ok (.aload_n 0, 1) := by decide +kernel
set_option maxRecDepth 20000 in
theorem d_293_1369 : decode (js_b 293) 1369 = .ok (.iload 5, 2) := by decide +kernel
set_option maxRecDepth 20000 in
theorem d_293_1371 : decode (js_b 293) 1371 = .ok (.iconst 1, 1) := by decide +kernel
set_option maxRecDepth 20000 in
theorem d_293_1372 : decode (js_b 293) 1372 = .ok (.iadd, 1) := by decide +kernel
set_option maxRecDepth 20000 in
theorem d_293_1373 : decode (js_b 293) 1373 = .ok (.iaload, 1) := by decide +kernel
set_option maxRecDepth 20000 in
theorem d_293_1374 : decode (js_b 293) 1374 = .ok (.i2c, 1) := by decide +kernel
set_option maxRecDepth 20000 in
theorem d_293_1375 : decode (js_b 293) 1375 = .ok (.aload_n 3, 1) := by decide +kernel
set_option maxRecDepth 20000 in
theorem d_293_1376 : decode (js_b 293) 1376 = .ok (.invokestatic 232, 3) := by decide +kernel
set_option maxRecDepth 20000 in
theorem d_293_1379 : decode (js_b 293) 1379 = .ok (.istore 6, 2) := by decide +kernel
set_option maxRecDepth 20000 in
theorem d_293_1381 : decode (js_b 293) 1381 = .ok (.aload_n 2, 1) := by decide +kernel
set_option maxRecDepth 20000 in
theorem d_293_1382 : decode (js_b 293) 1382 = .ok (.aload_n 0, 1) := by decide +kernel
set_option maxRecDepth 20000 in
theorem d_293_1383 : decode (js_b 293) 1383 = .ok (.iload 5, 2) := by decide +kernel
set_option maxRecDepth 20000 in
theorem d_293_1385 : decode (js_b 293) 1385 = .ok (.iconst 1, 1) := by decide +kernel
set_option maxRecDepth 20000 in
theorem d_293_1386 : decode (js_b 293) 1386 = .ok (.iadd, 1) := by decide +kernel
set_option maxRecDepth 20000 in
theorem d_293_1387 : decode (js_b 293) 1387 = .ok (.iaload, 1) := by decide +kernel
set_option maxRecDepth 20000 in
theorem d_293_1388 : decode (js_b 293) 1388 = .ok (.i2c, 1) := by decide +kernel
set_option maxRecDepth 20000 in
theorem d_293_1389 : decode (js_b 293) 1389 = .ok (.invokevirtual 235, 3) := by decide +kernel
set_option maxRecDepth 20000 in
theorem d_293_1392 : decode (js_b 293) 1392 = .ok (.lstore 7, 2) := by decide +kernel
set_option maxRecDepth 20000 in
theorem d_293_1394 : decode (js_b 293) 1394 = .ok (.aload_n 2, 1) := by decide +kernel
set_option maxRecDepth 20000 in
theorem d_293_1395 : decode (js_b 293) 1395 = .ok (.invokevirtual 159, 3) := by decide +kernel
set_option maxRecDepth 20000 in
theorem d_293_1398 : decode (js_b 293) 1398 = .ok (.iload 6, 2) := by decide +kernel
set_option maxRecDepth 20000 in
theorem d_293_1400 : decode (js_b 293) 1400 = .ok (.if_icmp .eq 5, 3) := by decide +kernel
set_option maxRecDepth 20000 in
theorem d_293_1403 : decode (js_b 293) 1403 = .ok (.iconst 0, 1) := by decide +kernel
set_option maxRecDepth 20000 in
theorem d_293_1404 : decode (js_b 293) 1404 = .ok (.ireturn, 1) := by decide +kernel
set_option maxRecDepth 20000 in
theorem d_293_1405 : decode (js_b 293) 1405 = .ok (.iload 6, 2) := by decide +kernel
set_option maxRecDepth 20000 in
theorem d_293_1407 : decode (js_b 293) 1407 = .ok (.ifCond .ne 14, 3) := by decide +kernel
set_option maxRecDepth 20000 in
theorem d_293_1410 : decode (js_b 293) 1410 = .ok (.aload_n 3, 1) := by decide +kernel
set_option maxRecDepth 20000 in
theorem d_293_1411 : decode (js_b 293) 1411 = .ok (.iconst 0, 1) := by decide +kernel
set_option maxRecDepth 20000 in
theorem d_293_1412 : decode (js_b 293) 1412 = .ok (.laload, 1) := by decide +kernel
set_option maxRecDepth 20000 in
theorem d_293_1413 : decode (js_b 293) 1413 = .ok (.lload 7, 2) := by decide +kernel
set_option maxRecDepth 20000 in
theorem d_293_1415 : decode (js_b 293) 1415 = .ok (.lcmp, 1) := by decide +kernel
set_option maxRecDepth 20000 in
theorem d_293_1416 : decode (js_b 293) 1416 = .ok (.ifCond .eq 5, 3) := by decide +kernel
set_option maxRecDepth 20000 in
theorem d_293_1419 : decode (js_b 293) 1419 = .ok (.iconst 0, 1) := by decide +kernel
set_option maxRecDepth 20000 in
theorem d_293_1420 : decode (js_b 293) 1420 = .ok (.ireturn, 1) := by decide +kernel
set_option maxRecDepth 20000 in
theorem d_293_1421 : decode (js_b 293) 1421 = .ok (.goto 1430, 3) := by decide +kernel
set_option maxRecDepth 20000 in
theorem d_293_1424 : decode (js_b 293) 1424 = .ok (.aload_n 1, 1) := by decide +kernel
set_option maxRecDepth 20000 in
theorem d_293_1425 : decode (js_b 293) 1425 = .ok (.invokevirtual 236, 3) := by decide +kernel
set_option maxRecDepth 20000 in
theorem d_293_1428 : decode (js_b 293) 1428 = .ok (.aload_n 2, 1) := by decide +kernel
set_option maxRecDepth 20000 in
theorem d_293_1429 : decode (js_b 293) 1429 = .ok (.invokevirtual 239, 3) := by decide +kernel
set_option maxRecDepth 20000 in
theorem d_293_1432 : decode (js_b 293) 1432 = .ok (.lcmp, 1) := by decide +kernel
set_option maxRecDepth 20000 in
theorem d_293_1433 : decode (js_b 293) 1433 = .ok (.ifCond .eq 1418, 3) := by decide +kernel
set_option maxRecDepth 20000 in
theorem d_293_1436 : decode (js_b 293) 1436 = .ok (.iconst 0, 1) := by decide +kernel
set_option maxRecDepth 20000 in
theorem d_293_1437 : decode (js_b 293) 1437 = .ok (.ireturn, 1) := by decide +kernel
set_option maxRecDepth 20000 in
theorem d_293_1438 : decode (js_b 293) 1438 = .ok (.aload_n 1, 1) := by decide +kernel
set_option maxRecDepth 20000 in
theorem d_293_1439 : decode (js_b 293) 1439 = .ok (.invokevirtual 240, 3) := by decide +kernel
set_option maxRecDepth 20000 in
theorem d_293_1442 : decode (js_b 293) 1442 = .ok (.aload_n 2, 1) := by decide +kernel
set_option maxRecDepth 20000 in
theorem d_293_1443 : decode (js_b 293) 1443 = .ok (.invokevirtual 243, 3) := by decide +kernel
set_option maxRecDepth 20000 in
theorem d_293_1446 : decode (js_b 293) 1446 = .ok (.lcmp, 1) := by decide +kernel
set_option maxRecDepth 20000 in
theorem d_293_1447 : decode (js_b 293) 1447 = .ok (.ifCond .eq 1404, 3) := by decide +kernel
set_option maxRecDepth 20000 in
theorem d_293_1450 : decode (js_b 293) 1450 = .ok (.iconst 0, 1) := by decide +kernel
set_option maxRecDepth 20000 in
theorem d_293_1451 : decode (js_b 293) 1451 = .ok (.ireturn, 1) := by decide +kernel
set_option maxRecDepth 20000 in
theorem d_293_1452 : decode (js_b 293) 1452 = .ok (.aload_n 1, 1) := by decide +kernel
set_option maxRecDepth 20000 in
theorem d_293_1453 : decode (js_b 293) 1453 = .ok (.invokevirtual 244, 3) := by decide +kernel
set_option maxRecDepth 20000 in
theorem d_293_1456 : decode (js_b 293) 1456 = .ok (.aload_n 2, 1) := by decide +kernel
set_option maxRecDepth 20000 in
theorem d_293_1457 : decode (js_b 293) 1457 = .ok (.invokevirtual 247, 3) := by decide +kernel
set_option maxRecDepth 20000 in
theorem d_293_1460 : decode (js_b 293) 1460 = .ok (.if_icmp .eq 1391, 3) := by decide +kernel
set_option maxRecDepth 20000 in
theorem d_293_1463 : decode (js_b 293) 1463 = .ok (.iconst 0, 1) := by decide +kernel
set_option maxRecDepth 20000 in
theorem d_293_1464 : decode (js_b 293) 1464 = .ok (.ireturn, 1) := by decide +kernel
set_option maxRecDepth 20000 in
theorem d_293_1465 : decode (js_b 293) 1465 = .ok (.aload_n 1, 1) := by decide +kernel
set_option maxRecDepth 20000 in
theorem d_293_1466 : decode (js_b 293) 1466 = .ok (.invokevirtual 248, 3) := by decide +kernel
set_option maxRecDepth 20000 in
theorem d_293_1469 : decode (js_b 293) 1469 = .ok (.aload_n 2, 1) := by decide +kernel
set_option maxRecDepth 20000 in
theorem d_293_1470 : decode (js_b 293) 1470 = .ok (.invokevirtual 251, 3) := by decide +kernel
set_option maxRecDepth 20000 in
theorem d_293_1473 : decode (js_b 293) 1473 = .ok (.if_icmp .eq 1378, 3) := by decide +kernel
set_option maxRecDepth 20000 in
theorem d_293_1476 : decode (js_b 293) 1476 = .ok (.iconst 0, 1) := by decide +kernel
set_option maxRecDepth 20000 in
theorem d_293_1477 : decode (js_b 293) 1477 = .ok (.ireturn, 1) := by decide +kernel
set_option maxRecDepth 20000 in
theorem d_293_1478 : decode (js_b 293) 1478 = .ok (.aload_n 1, 1) := by decide +kernel
set_option maxRecDepth 20000 in
theorem d_293_1479 : decode (js_b 293) 1479 = .ok (.invokevirtual 252, 3) := by decide +kernel
set_option maxRecDepth 20000 in
theorem d_293_1482 : decode (js_b 293) 1482 = .ok (.aload_n 2, 1) := by decide +kernel
set_option maxRecDepth 20000 in
theorem d_293_1483 : decode (js_b 293) 1483 = .ok (.invokevirtual 255, 3) := by decide +kernel
set_option maxRecDepth 20000 in
theorem d_293_1486 : decode (js_b 293) 1486 = .ok (.if_icmp .eq 1365, 3) := by decide +kernel
set_option maxRecDepth 20000 in
theorem d_293_1489 : decode (js_b 293) 1489 = .ok (.iconst 0, 1) := by decide +kernel
set_option maxRecDepth 20000 in
theorem d_293_1490 : decode (js_b 293) 1490 = .ok (.ireturn, 1) := by decide +kernel
set_option maxRecDepth 20000 in
theorem d_293_1491 : decode (js_b 293) 1491 = .ok (.aload_n 1, 1) := by decide +kernel
set_option maxRecDepth 20000 in
theorem d_293_1492 : decode (js_b 293) 1492 = .ok (.aload_n 0, 1) := by decide +kernel
set_option maxRecDepth 20000 in
theorem d_293_1493 : decode (js_b 293) 1493 = .ok (.iload 5, 2) := by decide +kernel
set_option maxRecDepth 20000 in
theorem d_293_1495 : decode (js_b 293) 1495 = .ok (.iconst 1, 1) := by decide +kernel
set_option maxRecDepth 20000 in
theorem d_293_1496 : decode (js_b 293) 1496 = .ok (.iadd, 1) := by decide +kernel
set_option maxRecDepth 20000 in
theorem d_293_1497 : decode (js_b 293) 1497 = .ok (.iaload, 1) := by decide +kernel
set_option maxRecDepth 20000 in
theorem d_293_1498 : decode (js_b 293) 1498 = .ok (.aload_n 0, 1) := by decide +kernel
set_option maxRecDepth 20000 in
theorem d_293_1499 : decode (js_b 293) 1499 = .ok (.iload 5, 2) := by decide +kernel
set_option maxRecDepth 20000 in
theorem d_293_1501 : decode (js_b 293) 1501 = .ok (.iconst 2, 1) := by decide +kernel
set_option maxRecDepth 20000 in
theorem d_293_1502 : decode (js_b 293) 1502 = .ok (.iadd, 1) := by decide +kernel
set_option maxRecDepth 20000 in
theorem d_293_1503 : decode (js_b 293) 1503 = .ok (.iaload, 1) := by decide +kernel
set_option maxRecDepth 20000 in
theorem d_293_1504 : decode (js_b 293) 1504 = .ok (.aload_n 3, 1) := by decide +kernel
set_option maxRecDepth 20000 in
theorem d_293_1505 : decode (js_b 293) 1505 = .ok (.invokestatic 256, 3) := by decide +kernel
set_option maxRecDepth 20000 in
theorem d_293_1508 : decode (js_b 293) 1508 = .ok (.istore 6, 2) := by decide +kernel
set_option maxRecDepth 20000 in
theorem d_293_1510 : decode (js_b 293) 1510 = .ok (.aload_n 2, 1) := by decide +kernel
set_option maxRecDepth 20000 in
theorem d_293_1511 : decode (js_b 293) 1511 = .ok (.aload_n 0, 1) := by decide +kernel
set_option maxRecDepth 20000 in
theorem d_293_1512 : decode (js_b 293) 1512 = .ok (.iload 5, 2) := by decide +kernel
set_option maxRecDepth 20000 in
theorem d_293_1514 : decode (js_b 293) 1514 = .ok (.iconst 1, 1) := by decide +kernel
set_option maxRecDepth 20000 in
theorem d_293_1515 : decode (js_b 293) 1515 = .ok (.iadd, 1) := by decide +kernel
set_option maxRecDepth 20000 in
theorem d_293_1516 : decode (js_b 293) 1516 = .ok (.iaload, 1) := by decide +kernel
set_option maxRecDepth 20000 in
theorem d_293_1517 : decode (js_b 293) 1517 = .ok (.aload_n 0, 1) := by decide +kernel
set_option maxRecDepth 20000 in
theorem d_293_1518 : decode (js_b 293) 1518 = .ok (.iload 5, 2) := by decide +kernel
set_option maxRecDepth 20000 in
theorem d_293_1520 : decode (js_b 293) 1520 = .ok (.iconst 2, 1) := by decide +kernel
set_option maxRecDepth 20000 in
theorem d_293_1521 : decode (js_b 293) 1521 = .ok (.iadd, 1) := by decide +kernel
set_option maxRecDepth 20000 in
theorem d_293_1522 : decode (js_b 293) 1522 = .ok (.iaload, 1) := by decide +kernel
set_option maxRecDepth 20000 in
theorem d_293_1523 : decode (js_b 293) 1523 = .ok (.invokevirtual 258, 3) := by decide +kernel
set_option maxRecDepth 20000 in
theorem d_293_1526 : decode (js_b 293) 1526 = .ok (.istore 7, 2) := by decide +kernel
set_option maxRecDepth 20000 in
theorem d_293_1528 : decode (js_b 293) 1528 = .ok (.aload_n 2, 1) := by decide +kernel
set_option maxRecDepth 20000 in
theorem d_293_1529 : decode (js_b 293) 1529 = .ok (.invokevirtual 159, 3) := by decide +kernel
set_option maxRecDepth 20000 in
theorem d_293_1532 : decode (js_b 293) 1532 = .ok (.iload 6, 2) := by decide +kernel
set_option maxRecDepth 20000 in
theorem d_293_1534 : decode (js_b 293) 1534 = .ok (.if_icmp .eq 5, 3) := by decide +kernel
set_option maxRecDepth 20000 in
theorem d_293_1537 : decode (js_b 293) 1537 = .ok (.iconst 0, 1) := by decide +kernel
set_option maxRecDepth 20000 in
theorem d_293_1538 : decode (js_b 293) 1538 = .ok (.ireturn, 1) := by decide +kernel
set_option maxRecDepth 20000 in
theorem d_293_1539 : decode (js_b 293) 1539 = .ok (.iload 6, 2) := by decide +kernel
set_option maxRecDepth 20000 in
theorem d_293_1541 : decode (js_b 293) 1541 = .ok (.ifCond .ne 22, 3) := by decide +kernel
set_option maxRecDepth 20000 in
theorem d_293_1544 : decode (js_b 293) 1544 = .ok (.aload_n 3, 1) := by decide +kernel
set_option maxRecDepth 20000 in
theorem d_293_1545 : decode (js_b 293) 1545 = .ok (.iconst 0, 1) := by decide +kernel
set_option maxRecDepth 20000 in
theorem d_293_1546 : decode (js_b 293) 1546 = .ok (.laload, 1) := by decide +kernel
set_option maxRecDepth 20000 in
theorem d_293_1547 : decode (js_b 293) 1547 = .ok (.iload 7, 2) := by decide +kernel
set_option maxRecDepth 20000 in
theorem d_293_1549 : decode (js_b 293) 1549 = .ok (.ifCond .eq 7, 3) := by decide +kernel
set_option maxRecDepth 20000 in
theorem d_293_1552 : decode (js_b 293) 1552 = .ok (.lconst 1, 1) := by decide +kernel
set_option maxRecDepth 20000 in
theorem d_293_1553 : decode (js_b 293) 1553 = .ok (.goto 4, 3) := by decide +kernel
set_option maxRecDepth 20000 in
theorem d_293_1556 : decode (js_b 293) 1556 = .ok (.lconst 0, 1) := by decide +kernel
set_option maxRecDepth 20000 in
theorem d_293_1557 : decode (js_b 293) 1557 = .ok (.lcmp, 1) := by decide +kernel
set_option maxRecDepth 20000 in
theorem d_293_1558 : decode (js_b 293) 1558 = .ok (.ifCond .eq 5, 3) := by decide +kernel
set_option maxRecDepth 20000 in
theorem d_293_1561 : decode (js_b 293) 1561 = .ok (.iconst 0, 1) := by decide +kernel
set_option maxRecDepth 20000 in
theorem d_293_1562 : decode (js_b 293) 1562 = .ok (.ireturn, 1) := by decide +kernel
set_option maxRecDepth 20000 in
theorem d_293_1563 : decode (js_b 293) 1563 = .ok (.goto 1288, 3) := by decide +kernel
set_option maxRecDepth 20000 in
theorem d_293_1566 : decode (js_b 293) 1566 = .ok (.aload_n 1, 1) := by decide +kernel
set_option maxRecDepth 20000 in
theorem d_293_1567 : decode (js_b 293) 1567 = .ok (.aload_n 0, 1) := by decide +kernel
set_option maxRecDepth 20000 in
theorem d_293_1568 : decode (js_b 293) 1568 = .ok (.iload 5, 2) := by decide +kernel
set_option maxRecDepth 20000 in
theorem d_293_1570 : decode (js_b 293) 1570 = .ok (.iconst 1, 1) := by decide +kernel
set_option maxRecDepth 20000 in
theorem d_293_1571 : decode (js_b 293) 1571 = .ok (.iadd, 1) := by decide +kernel
set_option maxRecDepth 20000 in
theorem d_293_1572 : decode (js_b 293) 1572 = .ok (.iaload, 1) := by decide +kernel
set_option maxRecDepth 20000 in
theorem d_293_1573 : decode (js_b 293) 1573 = .ok (.aload_n 3, 1) := by decide +kernel
set_option maxRecDepth 20000 in
theorem d_293_1574 : decode (js_b 293) 1574 = .ok (.invokestatic 259, 3) := by decide +kernel
set_option maxRecDepth 20000 in
theorem d_293_1577 : decode (js_b 293) 1577 = .ok (.istore 6, 2) := by decide +kernel
set_option maxRecDepth 20000 in
theorem d_293_1579 : decode (js_b 293) 1579 = .ok (.aload_n 2, 1) := by decide +kernel
set_option maxRecDepth 20000 in
theorem d_293_1580 : decode (js_b 293) 1580 = .ok (.aload_n 0, 1) := by decide +kernel
set_option maxRecDepth 20000 in
theorem d_293_1581 : decode (js_b 293) 1581 = .ok (.iload 5, 2) := by decide +kernel
set_option maxRecDepth 20000 in
theorem d_293_1583 : decode (js_b 293) 1583 = .ok (.iconst 1, 1) := by decide +kernel
set_option maxRecDepth 20000 in
theorem d_293_1584 : decode (js_b 293) 1584 = .ok (.iadd, 1) := by decide +kernel
set_option maxRecDepth 20000 in
theorem d_293_1585 : decode (js_b 293) 1585 = .ok (.iaload, 1) := by decide +kernel
set_option maxRecDepth 20000 in
theorem d_293_1586 : decode (js_b 293) 1586 = .ok (.invokevirtual 261, 3) := by decide +kernel
set_option maxRecDepth 20000 in
theorem d_293_1589 : decode (js_b 293) 1589 = .ok (.istore 7, 2) := by decide +kernel
set_option maxRecDepth 20000 in
theorem d_293_1591 : decode (js_b 293) 1591 = .ok (.aload_n 2, 1) := by decide +kernel
set_option maxRecDepth 20000 in
theorem d_293_1592 : decode (js_b 293) 1592 = .ok (.invokevirtual 159, 3) := by decide +kernel
set_option maxRecDepth 20000 in
theorem d_293_1595 : decode (js_b 293) 1595 = .ok (.iload 6, 2) := by decide +kernel
set_option maxRecDepth 20000 in
theorem d_293_1597 : decode (js_b 293) 1597 = .ok (.if_icmp .eq 5, 3) := by decide +kernel
set_option maxRecDepth 20000 in
theorem d_293_1600 : decode (js_b 293) 1600 = .ok (.iconst 0, 1) := by decide +kernel
set_option maxRecDepth 20000 in
theorem d_293_1601 : decode (js_b 293) 1601 = .ok (.ireturn, 1) := by decide +kernel
set_option maxRecDepth 20000 in
theorem d_293_1602 : decode (js_b 293) 1602 = .ok (.iload 6, 2) := by decide +kernel
set_option maxRecDepth 20000 in
theorem d_293_1604 : decode (js_b 293) 1604 = .ok (.ifCond .ne 15, 3) := by decide +kernel
set_option maxRecDepth 20000 in
theorem d_293_1607 : decode (js_b 293) 1607 = .ok (.aload_n 3, 1) := by decide +kernel
set_option maxRecDepth 20000 in
theorem d_293_1608 : decode (js_b 293) 1608 = .ok (.iconst 0, 1) := by decide +kernel
set_option maxRecDepth 20000 in
theorem d_293_1609 : decode (js_b 293) 1609 = .ok (.laload, 1) := by decide +kernel
set_option maxRecDepth 20000 in
theorem d_293_1610 : decode (js_b 293) 1610 = .ok (.iload 7, 2) := by decide +kernel
set_option maxRecDepth 20000 in
theorem d_293_1612 : decode (js_b 293) 1612 = .ok (.i2l, 1) := by decide +kernel
set_option maxRecDepth 20000 in
theorem d_293_1613 : decode (js_b 293) 1613 = .ok (.lcmp, 1) := by decide +kernel
set_option maxRecDepth 20000 in
theorem d_293_1614 : decode (js_b 293) 1614 = .ok (.ifCond .eq 5, 3) := by decide +kernel
set_option maxRecDepth 20000 in
theorem d_293_1617 : decode (js_b 293) 1617 = .ok (.iconst 0, 1) := by decide +kernel
set_option maxRecDepth 20000 in
theorem d_293_1618 : decode (js_b 293) 1618 = .ok (.ireturn, 1) := by decide +kernel
set_option maxRecDepth 20000 in
theorem d_293_1619 : decode (js_b 293) 1619 = .ok (.goto 1232, 3) := by decide +kernel
set_option maxRecDepth 20000 in
theorem d_293_1622 : decode (js_b 293) 1622 = .ok (.aload_n 1, 1) := by decide +kernel
set_option maxRecDepth 20000 in
theorem d_293_1623 : decode (js_b 293) 1623 = .ok (.aload_n 0, 1) := by decide +kernel
set_option maxRecDepth 20000 in
theorem d_293_1624 : decode (js_b 293) 1624 = .ok (.iload 5, 2) := by decide +kernel
set_option maxRecDepth 20000 in
theorem d_293_1626 : decode (js_b 293) 1626 = .ok (.iconst 1, 1) := by decide +kernel
set_option maxRecDepth 20000 in
theorem d_293_1627 : decode (js_b 293) 1627 = .ok (.iadd, 1) := by decide +kernel
set_option maxRecDepth 20000 in
theorem d_293_1628 : decode (js_b 293) 1628 = .ok (.iaload, 1) := by decide +kernel
set_option maxRecDepth 20000 in
theorem d_293_1629 : decode (js_b 293) 1629 = .ok (.aload_n 0, 1) := by decide +kernel
set_option maxRecDepth 20000 in
theorem d_293_1630 : decode (js_b 293) 1630 = .ok (.iload 5, 2) := by decide +kernel
set_option maxRecDepth 20000 in
theorem d_293_1632 : decode (js_b 293) 1632 = .ok (.iconst 2, 1) := by decide +kernel
set_option maxRecDepth 20000 in
theorem d_293_1633 : decode (js_b 293) 1633 = .ok (.iadd, 1) := by decide +kernel
set_option maxRecDepth 20000 in
theorem d_293_1634 : decode (js_b 293) 1634 = .ok (.iaload, 1) := by decide +kernel
set_option maxRecDepth 20000 in
theorem d_293_1635 : decode (js_b 293) 1635 = .ok (.aload_n 3, 1) := by decide +kernel
set_option maxRecDepth 20000 in
theorem d_293_1636 : decode (js_b 293) 1636 = .ok (.invokestatic 262, 3) := by decide +kernel
set_option maxRecDepth 20000 in
theorem d_293_1639 : decode (js_b 293) 1639 = .ok (.istore 6, 2) := by decide +kernel
set_option maxRecDepth 20000 in
theorem d_293_1641 : decode (js_b 293) 1641 = .ok (.aload_n 2, 1) := by decide +kernel
set_option maxRecDepth 20000 in
theorem d_293_1642 : decode (js_b 293) 1642 = .ok (.aload_n 0, 1) := by decide +kernel
set_option maxRecDepth 20000 in
theorem d_293_1643 : decode (js_b 293) 1643 = .ok (.iload 5, 2) := by decide +kernel
set_option maxRecDepth 20000 in
theorem d_293_1645 : decode (js_b 293) 1645 = .ok (.iconst 1, 1) := by decide +kernel
set_option maxRecDepth 20000 in
theorem d_293_1646 : decode (js_b 293) 1646 = .ok (.iadd, 1) := by decide +kernel
set_option maxRecDepth 20000 in
theorem d_293_1647 : decode (js_b 293) 1647 = .ok (.iaload, 1) := by decide +kernel
set_option maxRecDepth 20000 in
theorem d_293_1648 : decode (js_b 293) 1648 = .ok (.aload_n 0, 1) := by decide +kernel
set_option maxRecDepth 20000 in
theorem d_293_1649 : decode (js_b 293) 1649 = .ok (.iload 5, 2) := by decide +kernel
set_option maxRecDepth 20000 in
theorem d_293_1651 : decode (js_b 293) 1651 = .ok (.iconst 2, 1) := by decide +kernel
set_option maxRecDepth 20000 in
theorem d_293_1652 : decode (js_b 293) 1652 = .ok (.iadd, 1) := by decide +kernel
set_option maxRecDepth 20000 in
theorem d_293_1653 : decode (js_b 293) 1653 = .ok (.iaload, 1) := by decide +kernel
set_option maxRecDepth 20000 in
theorem d_293_1654 : decode (js_b 293) 1654 = .ok (.invokevirtual 264, 3) := by decide +kernel
set_option maxRecDepth 20000 in
theorem d_293_1657 : decode (js_b 293) 1657 = .ok (.istore 7, 2) := by decide +kernel
set_option maxRecDepth 20000 in
theorem d_293_1659 : decode (js_b 293) 1659 = .ok (.aload_n 2, 1) := by decide +kernel
set_option maxRecDepth 20000 in
theorem d_293_1660 : decode (js_b 293) 1660 = .ok (.invokevirtual 159, 3) := by decide +kernel
set_option maxRecDepth 20000 in
theorem d_293_1663 : decode (js_b 293) 1663 = .ok (.iload 6, 2) := by decide +kernel
set_option maxRecDepth 20000 in
theorem d_293_1665 : decode (js_b 293) 1665 = .ok (.if_icmp .eq 5, 3) := by decide +kernel
set_option maxRecDepth 20000 in
theorem d_293_1668 : decode (js_b 293) 1668 = .ok (.iconst 0, 1) := by decide +kernel
set_option maxRecDepth 20000 in
theorem d_293_1669 : decode (js_b 293) 1669 = .ok (.ireturn, 1) := by decide +kernel
set_option maxRecDepth 20000 in
theorem d_293_1670 : decode (js_b 293) 1670 = .ok (.iload 6, 2) := by decide +kernel
set_option maxRecDepth 20000 in
theorem d_293_1672 : decode (js_b 293) 1672 = .ok (.ifCond .ne 15, 3) := by decide +kernel
set_option maxRecDepth 20000 in
theorem d_293_1675 : decode (js_b 293) 1675 = .ok (.aload_n 3, 1) := by decide +kernel
set_option maxRecDepth 20000 in
theorem d_293_1676 : decode (js_b 293) 1676 = .ok (.iconst 0, 1) := by decide +kernel
set_option maxRecDepth 20000 in
theorem d_293_1677 : decode (js_b 293) 1677 = .ok (.laload, 1) := by decide +kernel
set_option maxRecDepth 20000 in
theorem d_293_1678 : decode (js_b 293) 1678 = .ok (.iload 7, 2) := by decide +kernel
set_option maxRecDepth 20000 in
theorem d_293_1680 : decode (js_b 293) 1680 = .ok (.i2l, 1) := by decide +kernel
set_option maxRecDepth 20000 in
theorem d_293_1681 : decode (js_b 293) 1681 = .ok (.lcmp, 1) := by decide +kernel
set_option maxRecDepth 20000 in
theorem d_293_1682 : decode (js_b 293) 1682 = .ok (.ifCond .eq 5, 3) := by decide +kernel
set_option maxRecDepth 20000 in
theorem d_293_1685 : decode (js_b 293) 1685 = .ok (.iconst 0, 1) := by decide +kernel
set_option maxRecDepth 20000 in
theorem d_293_1686 : decode (js_b 293) 1686 = .ok (.ireturn, 1) := by decide +kernel
set_option maxRecDepth 20000 in
theorem d_293_1687 : decode (js_b 293) 1687 = .ok (.goto 1164, 3) := by decide +kernel
set_option maxRecDepth 20000 in
theorem d_293_1690 : decode (js_b 293) 1690 = .ok (.aload_n 1, 1) := by decide +kernel
set_option maxRecDepth 20000 in
theorem d_293_1691 : decode (js_b 293) 1691 = .ok (.aload_n 0, 1) := by decide +kernel
set_option maxRecDepth 20000 in
theorem d_293_1692 : decode (js_b 293) 1692 = .ok (.iload 5, 2) := by decide +kernel
set_option maxRecDepth 20000 in
theorem d_293_1694 : decode (js_b 293) 1694 = .ok (.iconst 1, 1) := by decide +kernel
set_option maxRecDepth 20000 in
theorem d_293_1695 : decode (js_b 293) 1695 = .ok (.iadd, 1) := by decide +kernel
set_option maxRecDepth 20000 in
theorem d_293_1696 : decode (js_b 293) 1696 = .ok (.iaload, 1) := by decide +kernel
set_option maxRecDepth 20000 in
theorem d_293_1697 : decode (js_b 293) 1697 = .ok (.aload_n 0, 1) := by decide +kernel
set_option maxRecDepth 20000 in
theorem d_293_1698 : decode (js_b 293) 1698 = .ok (.iload 5, 2) := by decide +kernel
set_option maxRecDepth 20000 in
theorem d_293_1700 : decode (js_b 293) 1700 = .ok (.iconst 2, 1) := by decide +kernel
set_option maxRecDepth 20000 in
theorem d_293_1701 : decode (js_b 293) 1701 = .ok (.iadd, 1) := by decide +kernel
set_option maxRecDepth 20000 in
theorem d_293_1702 : decode (js_b 293) 1702 = .ok (.iaload, 1) := by decide +kernel
set_option maxRecDepth 20000 in
theorem d_293_1703 : decode (js_b 293) 1703 = .ok (.aload_n 0, 1) := by decide +kernel
set_option maxRecDepth 20000 in
theorem d_293_1704 : decode (js_b 293) 1704 = .ok (.iload 5, 2) := by decide +kernel
set_option maxRecDepth 20000 in
theorem d_293_1706 : decode (js_b 293) 1706 = .ok (.iconst 3, 1) := by decide +kernel
set_option maxRecDepth 20000 in
theorem d_293_1707 : decode (js_b 293) 1707 = .ok (.iadd, 1) := by decide +kernel
set_option maxRecDepth 20000 in
theorem d_293_1708 : decode (js_b 293) 1708 = .ok (.iaload, 1) := by decide +kernel
set_option maxRecDepth 20000 in
theorem d_293_1709 : decode (js_b 293) 1709 = .ok (.aload_n 0, 1) := by decide +kernel
set_option maxRecDepth 20000 in
theorem d_293_1710 : decode (js_b 293) 1710 = .ok (.iload 5, 2) := by decide +kernel
set_option maxRecDepth 20000 in
theorem d_293_1712 : decode (js_b 293) 1712 = .ok (.iconst 4, 1) := by decide +kernel
set_option maxRecDepth 20000 in
theorem d_293_1713 : decode (js_b 293) 1713 = .ok (.iadd, 1) := by decide +kernel
set_option maxRecDepth 20000 in
theorem d_293_1714 : decode (js_b 293) 1714 = .ok (.iaload, 1) := by decide +kernel
set_option maxRecDepth 20000 in
theorem d_293_1715 : decode (js_b 293) 1715 = .ok (.aload_n 3, 1) := by decide +kernel
set_option maxRecDepth 20000 in
theorem d_293_1716 : decode (js_b 293) 1716 = .ok (.invokestatic 265, 3) := by decide +kernel
set_option maxRecDepth 20000 in
theorem d_293_1719 : decode (js_b 293) 1719 = .ok (.istore 6, 2) := by decide +kernel
set_option maxRecDepth 20000 in
theorem d_293_1721 : decode (js_b 293) 1721 = .ok (.aload_n 2, 1) := by decide +kernel
set_option maxRecDepth 20000 in
theorem d_293_1722 : decode (js_b 293) 1722 = .ok (.aload_n 0, 1) := by decide +kernel
set_option maxRecDepth 20000 in
theorem d_293_1723 : decode (js_b 293) 1723 = .ok (.iload 5, 2) := by decide +kernel
set_option maxRecDepth 20000 in
theorem d_293_1725 : decode (js_b 293) 1725 = .ok (.iconst 1, 1) := by decide +kernel
set_option maxRecDepth 20000 in
theorem d_293_1726 : decode (js_b 293) 1726 = .ok (.iadd, 1) := by decide +kernel
set_option maxRecDepth 20000 in
theorem d_293_1727 : decode (js_b 293) 1727 = .ok (.iaload, 1) := by decide +kernel
set_option maxRecDepth 20000 in
theorem d_293_1728 : decode (js_b 293) 1728 = .ok (.aload_n 0, 1) := by decide +kernel
set_option maxRecDepth 20000 in
theorem d_293_1729 : decode (js_b 293) 1729 = .ok (.iload 5, 2) := by decide +kernel
set_option maxRecDepth 20000 in
theorem d_293_1731 : decode (js_b 293) 1731 = .ok (.iconst 2, 1) := by decide +kernel
set_option maxRecDepth 20000 in
theorem d_293_1732 : decode (js_b 293) 1732 = .ok (.iadd, 1) := by decide +kernel
set_option maxRecDepth 20000 in
theorem d_293_1733 : decode (js_b 293) 1733 = .ok (.iaload, 1) := by decide +kernel
set_option maxRecDepth 20000 in
theorem d_293_1734 : decode (js_b 293) 1734 = .ok (.aload_n 0, 1) := by decide +kernel
set_option maxRecDepth 20000 in
theorem d_293_1735 : decode (js_b 293) 1735 = .ok (.iload 5, 2) := by decide +kernel
set_option maxRecDepth 20000 in
theorem d_293_1737 : decode (js_b 293) 1737 = .ok (.iconst 3, 1) := by decide +kernel
set_option maxRecDepth 20000 in
theorem d_293_1738 : decode (js_b 293) 1738 = .ok (.iadd, 1) := by decide +kernel
set_option maxRecDepth 20000 in
theorem d_293_1739 : decode (js_b 293) 1739 = .ok (.iaload, 1) := by decide +kernel
set_option maxRecDepth 20000 in
theorem d_293_1740 : decode (js_b 293) 1740 = .ok (.aload_n 0, 1) := by decide +kernel
set_option maxRecDepth 20000 in
theorem d_293_1741 : decode (js_b 293) 1741 = .ok (.iload 5, 2) := by decide +kernel
set_option maxRecDepth 20000 in
theorem d_293_1743 : decode (js_b 293) 1743 = .ok (.iconst 4, 1) := by decide +kernel
set_option maxRecDepth 20000 in
theorem d_293_1744 : decode (js_b 293) 1744 = .ok (.iadd, 1) := by decide +kernel
set_option maxRecDepth 20000 in
theorem d_293_1745 : decode (js_b 293) 1745 = .ok (.iaload, 1) := by decide +kernel
set_option maxRecDepth 20000 in
theorem d_293_1746 : decode (js_b 293) 1746 = .ok (.invokevirtual 268, 3) := by decide +kernel
set_option maxRecDepth 20000 in
theorem d_293_1749 : decode (js_b 293) 1749 = .ok (.istore 7, 2) := by decide +kernel
set_option maxRecDepth 20000 in
theorem d_293_1751 : decode (js_b 293) 1751 = .ok (.aload_n 2, 1) := by decide +kernel
set_option maxRecDepth 20000 in
theorem d_293_1752 : decode (js_b 293) 1752 = .ok (.invokevirtual 159, 3) := by decide +kernel
set_option maxRecDepth 20000 in
theorem d_293_1755 : decode (js_b 293) 1755 = .ok (.iload 6, 2) := by decide +kernel
set_option maxRecDepth 20000 in
theorem d_293_1757 : decode (js_b 293) 1757 = .ok (.if_icmp .eq 5, 3) := by decide +kernel
set_option maxRecDepth 20000 in
theorem d_293_1760 : decode (js_b 293) 1760 = .ok (.iconst 0, 1) := by decide +kernel
set_option maxRecDepth 20000 in
theorem d_293_1761 : decode (js_b 293) 1761 = .ok (.ireturn, 1) := by decide +kernel
set_option maxRecDepth 20000 in
theorem d_293_1762 : decode (js_b 293) 1762 = .ok (.iload 6, 2) := by decide +kernel
set_option maxRecDepth 20000 in
theorem d_293_1764 : decode (js_b 293) 1764 = .ok (.ifCond .ne 15, 3) := by decide +kernel
set_option maxRecDepth 20000 in
theorem d_293_1767 : decode (js_b 293) 1767 = .ok (.aload_n 3, 1) := by decide +kernel
set_option maxRecDepth 20000 in
theorem d_293_1768 : decode (js_b 293) 1768 = .ok (.iconst 0, 1) := by decide +kernel
set_option maxRecDepth 20000 in
theorem d_293_1769 : decode (js_b 293) 1769 = .ok (.laload, 1) := by decide +kernel
set_option maxRecDepth 20000 in
theorem d_293_1770 : decode (js_b 293) 1770 = .ok (.iload 7, 2) := by decide +kernel
set_option maxRecDepth 20000 in
theorem d_293_1772 : decode (js_b 293) 1772 = .ok (.i2l, 1) := by decide +kernel
set_option maxRecDepth 20000 in
theorem d_293_1773 : decode (js_b 293) 1773 = .ok (.lcmp, 1) := by decide +kernel
set_option maxRecDepth 20000 in
theorem d_293_1774 : decode (js_b 293) 1774 = .ok (.ifCond .eq 5, 3) := by decide +kernel
set_option maxRecDepth 20000 in
theorem d_293_1777 : decode (js_b 293) 1777 = .ok (.iconst 0, 1) := by decide +kernel
set_option maxRecDepth 20000 in
theorem d_293_1778 : decode (js_b 293) 1778 = .ok (.ireturn, 1) := by decide +kernel
set_option maxRecDepth 20000 in
theorem d_293_1779 : decode (js_b 293) 1779 = .ok (.goto 1072, 3) := by decide +kernel
set_option maxRecDepth 20000 in
theorem d_293_1782 : decode (js_b 293) 1782 = .ok (.aload_n 1, 1) := by decide +kernel
set_option maxRecDepth 20000 in
theorem d_293_1783 : decode (js_b 293) 1783 = .ok (.aload_n 0, 1) := by decide +kernel
set_option maxRecDepth 20000 in
theorem d_293_1784 : decode (js_b 293) 1784 = .ok (.iload 5, 2) := by decide +kernel
set_option maxRecDepth 20000 in
theorem d_293_1786 : decode (js_b 293) 1786 = .ok (.iconst 1, 1) := by decide +kernel
set_option maxRecDepth 20000 in
theorem d_293_1787 : decode (js_b 293) 1787 = .ok (.iadd, 1) := by decide +kernel
set_option maxRecDepth 20000 in
theorem d_293_1788 : decode (js_b 293) 1788 = .ok (.iaload, 1) := by decide +kernel
set_option maxRecDepth 20000 in
theorem d_293_1789 : decode (js_b 293) 1789 = .ok (.aload_n 0, 1) := by decide +kernel
set_option maxRecDepth 20000 in
theorem d_293_1790 : decode (js_b 293) 1790 = .ok (.iload 5, 2) := by decide +kernel
set_option maxRecDepth 20000 in
theorem d_293_1792 : decode (js_b 293) 1792 = .ok (.iconst 2, 1) := by decide +kernel
set_option maxRecDepth 20000 in
theorem d_293_1793 : decode (js_b 293) 1793 = .ok (.iadd, 1) := by decide +kernel
set_option maxRecDepth 20000 in
theorem d_293_1794 : decode (js_b 293) 1794 = .ok (.iaload, 1) := by decide +kernel
set_option maxRecDepth 20000 in
theorem d_293_1795 : decode (js_b 293) 1795 = .ok (.aload_n 0, 1) := by decide +kernel
set_option maxRecDepth 20000 in
theorem d_293_1796 : decode (js_b 293) 1796 = .ok (.iload 5, 2) := by decide +kernel
set_option maxRecDepth 20000 in
theorem d_293_1798 : decode (js_b 293) 1798 = .ok (.iconst 3, 1) := by decide +kernel
set_option maxRecDepth 20000 in
theorem d_293_1799 : decode (js_b 293) 1799 = .ok (.iadd, 1) := by decide +kernel
set_option maxRecDepth 20000 in
theorem d_293_1800 : decode (js_b 293) 1800 = .ok (.iaload, 1) := by decide +kernel
set_option maxRecDepth 20000 in
theorem d_293_1801 : decode (js_b 293) 1801 = .ok (.aload_n 3, 1) := by decide +kernel
set_option maxRecDepth 20000 in
theorem d_293_1802 : decode (js_b 293) 1802 = .ok (.invokestatic 269, 3) := by decide +kernel
set_option maxRecDepth 20000 in
theorem d_293_1805 : decode (js_b 293) 1805 = .ok (.istore 6, 2) := by decide +kernel
set_option maxRecDepth 20000 in
theorem d_293_1807 : decode (js_b 293) 1807 = .ok (.aload_n 2, 1) := by decide +kernel
set_option maxRecDepth 20000 in
theorem d_293_1808 : decode (js_b 293) 1808 = .ok (.aload_n 0, 1) := by decide +kernel
set_option maxRecDepth 20000 in
theorem d_293_1809 : decode (js_b 293) 1809 = .ok (.iload 5, 2) := by decide +kernel
set_option maxRecDepth 20000 in
theorem d_293_1811 : decode (js_b 293) 1811 = .ok (.iconst 1, 1) := by decide +kernel
set_option maxRecDepth 20000 in
theorem d_293_1812 : decode (js_b 293) 1812 = .ok (.iadd, 1) := by decide +kernel
set_option maxRecDepth 20000 in
theorem d_293_1813 : decode (js_b 293) 1813 = .ok (.iaload, 1) := by decide +kernel
set_option maxRecDepth 20000 in
theorem d_293_1814 : decode (js_b 293) 1814 = .ok (.aload_n 0, 1) := by decide +kernel
set_option maxRecDepth 20000 in
theorem d_293_1815 : decode (js_b 293) 1815 = .ok (.iload 5, 2) := by decide +kernel
set_option maxRecDepth 20000 in
theorem d_293_1817 : decode (js_b 293) 1817 = .ok (.iconst 2, 1) := by decide +kernel
set_option maxRecDepth 20000 in
theorem d_293_1818 : decode (js_b 293) 1818 = .ok (.iadd, 1) := by decide +kernel
set_option maxRecDepth 20000 in
theorem d_293_1819 : decode (js_b 293) 1819 = .ok (.iaload, 1) := by decide +kernel
set_option maxRecDepth 20000 in
theorem d_293_1820 : decode (js_b 293) 1820 = .ok (.aload_n 0, 1) := by decide +kernel
set_option maxRecDepth 20000 in
theorem d_293_1821 : decode (js_b 293) 1821 = .ok (.iload 5, 2) := by decide +kernel
set_option maxRecDepth 20000 in
theorem d_293_1823 : decode (js_b 293) 1823 = .ok (.iconst 3, 1) := by decide +kernel
set_option maxRecDepth 20000 in
theorem d_293_1824 : decode (js_b 293) 1824 = .ok (.iadd, 1) := by decide +kernel
set_option maxRecDepth 20000 in
theorem d_293_1825 : decode (js_b 293) 1825 = .ok (.iaload, 1) := by decide +kernel
set_option maxRecDepth 20000 in
theorem d_293_1826 : decode (js_b 293) 1826 = .ok (.invokevirtual 271, 3) := by decide +kernel
set_option maxRecDepth 20000 in
theorem d_293_1829 : decode (js_b 293) 1829 = .ok (.istore 7, 2) := by decide +kernel
set_option maxRecDepth 20000 in
theorem d_293_1831 : decode (js_b 293) 1831 = .ok (.aload_n 2, 1) := by decide +kernel
set_option maxRecDepth 20000 in
theorem d_293_1832 : decode (js_b 293) 1832 = .ok (.invokevirtual 159, 3) := by decide +kernel
set_option maxRecDepth 20000 in
theorem d_293_1835 : decode (js_b 293) 1835 = .ok (.iload 6, 2) := by decide +kernel
set_option maxRecDepth 20000 in
theorem d_293_1837 : decode (js_b 293) 1837 = .ok (.if_icmp .eq 5, 3) := by decide +kernel
set_option maxRecDepth 20000 in
theorem d_293_1840 : decode (js_b 293) 1840 = .ok (.iconst 0, 1) := by decide +kernel
set_option maxRecDepth 20000 in
theorem d_293_1841 : decode (js_b 293) 1841 = .ok (.ireturn, 1) := by decide +kernel
set_option maxRecDepth 20000 in
theorem d_293_1842 : decode (js_b 293) 1842 = .ok (.iload 6, 2) := by decide +kernel
set_option maxRecDepth 20000 in
theorem d_293_1844 : decode (js_b 293) 1844 = .ok (.ifCond .ne 15, 3) := by decide +kernel
set_option maxRecDepth 20000 in
theorem d_293_1847 : decode (js_b 293) 1847 = .ok (.aload_n 3, 1) := by decide +kernel
set_option maxRecDepth 20000 in
theorem d_293_1848 : decode (js_b 293) 1848 = .ok (.iconst 0, 1) := by decide +kernel
set_option maxRecDepth 20000 in
theorem d_293_1849 : decode (js_b 293) 1849 = .ok (.laload, 1) := by decide +kernel
set_option maxRecDepth 20000 in
theorem d_293_1850 : decode (js_b 293) 1850 = .ok (.iload 7, 2) := by decide +kernel
set_option maxRecDepth 20000 in
theorem d_293_1852 : decode (js_b 293) 1852 = .ok (.i2l, 1) := by decide +kernel
set_option maxRecDepth 20000 in
theorem d_293_1853 : decode (js_b 293) 1853 = .ok (.lcmp, 1) := by decide +kernel
set_option maxRecDepth 20000 in
theorem d_293_1854 : decode (js_b 293) 1854 = .ok (.ifCond .eq 5, 3) := by decide +kernel
set_option maxRecDepth 20000 in
theorem d_293_1857 : decode (js_b 293) 1857 = .ok (.iconst 0, 1) := by decide +kernel
set_option maxRecDepth 20000 in
theorem d_293_1858 : decode (js_b 293) 1858 = .ok (.ireturn, 1) := by decide +kernel
set_option maxRecDepth 20000 in
theorem d_293_1859 : decode (js_b 293) 1859 = .ok (.goto 992, 3) := by decide +kernel
set_option maxRecDepth 20000 in
theorem d_293_1862 : decode (js_b 293) 1862 = .ok (.aload_n 1, 1) := by decide +kernel
set_option maxRecDepth 20000 in
theorem d_293_1863 : decode (js_b 293) 1863 = .ok (.aload_n 0, 1) := by decide +kernel
set_option maxRecDepth 20000 in
theorem d_293_1864 : decode (js_b 293) 1864 = .ok (.iload 5, 2) := by decide +kernel
set_option maxRecDepth 20000 in
theorem d_293_1866 : decode (js_b 293) 1866 = .ok (.iconst 1, 1) := by decide +kernel
set_option maxRecDepth 20000 in
theorem d_293_1867 : decode (js_b 293) 1867 = .ok (.iadd, 1) := by decide +kernel
set_option maxRecDepth 20000 in
theorem d_293_1868 : decode (js_b 293) 1868 = .ok (.iaload, 1) := by decide +kernel
set_option maxRecDepth 20000 in
theorem d_293_1869 : decode (js_b 293) 1869 = .ok (.aload_n 0, 1) := by decide +kernel
set_option maxRecDepth 20000 in
theorem d_293_1870 : decode (js_b 293) 1870 = .ok (.iload 5, 2) := by decide +kernel
set_option maxRecDepth 20000 in
theorem d_293_1872 : decode (js_b 293) 1872 = .ok (.iconst 2, 1) := by decide +kernel
set_option maxRecDepth 20000 in
theorem d_293_1873 : decode (js_b 293) 1873 = .ok (.iadd, 1) := by decide +kernel
set_option maxRecDepth 20000 in
theorem d_293_1874 : decode (js_b 293) 1874 = .ok (.iaload, 1) := by decide +kernel
set_option maxRecDepth 20000 in
theorem d_293_1875 : decode (js_b 293) 1875 = .ok (.aload_n 3, 1) := by decide +kernel
set_option maxRecDepth 20000 in
theorem d_293_1876 : decode (js_b 293) 1876 = .ok (.invokestatic 272, 3) := by decide +kernel
set_option maxRecDepth 20000 in
theorem d_293_1879 : decode (js_b 293) 1879 = .ok (.istore 6, 2) := by decide +kernel
set_option maxRecDepth 20000 in
theorem d_293_1881 : decode (js_b 293) 1881 = .ok (.aload_n 2, 1) := by decide +kernel
set_option maxRecDepth 20000 in
theorem d_293_1882 : decode (js_b 293) 1882 = .ok (.aload_n 0, 1) := by decide +kernel
set_option maxRecDepth 20000 in
theorem d_293_1883 : decode (js_b 293) 1883 = .ok (.iload 5, 2) := by decide +kernel
set_option maxRecDepth 20000 in
theorem d_293_1885 : decode (js_b 293) 1885 = .ok (.iconst 1, 1) := by decide +kernel
set_option maxRecDepth 20000 in
theorem d_293_1886 : decode (js_b 293) 1886 = .ok (.iadd, 1) := by decide +kernel
set_option maxRecDepth 20000 in
theorem d_293_1887 : decode (js_b 293) 1887 = .ok (.iaload, 1) := by decide +kernel
set_option maxRecDepth 20000 in
theorem d_293_1888 : decode (js_b 293) 1888 = .ok (.aload_n 0, 1) := by decide +kernel
set_option maxRecDepth 20000 in
theorem d_293_1889 : decode (js_b 293) 1889 = .ok (.iload 5, 2) := by decide +kernel
set_option maxRecDepth 20000 in
theorem d_293_1891 : decode (js_b 293) 1891 = .ok (.iconst 2, 1) := by decide +kernel
set_option maxRecDepth 20000 in
theorem d_293_1892 : decode (js_b 293) 1892 = .ok (.iadd, 1) := by decide +kernel
set_option maxRecDepth 20000 in
theorem d_293_1893 : decode (js_b 293) 1893 = .ok (.iaload, 1) := by decide +kernel
set_option maxRecDepth 20000 in
theorem d_293_1894 : decode (js_b 293) 1894 = .ok (.invokevirtual 274, 3) := by decide +kernel
set_option maxRecDepth 20000 in
theorem d_293_1897 : decode (js_b 293) 1897 = .ok (.istore 7, 2) := by decide +kernel
set_option maxRecDepth 20000 in
theorem d_293_1899 : decode (js_b 293) 1899 = .ok (.aload_n 2, 1) := by decide +kernel
set_option maxRecDepth 20000 in
theorem d_293_1900 : decode (js_b 293) 1900 = .ok (.invokevirtual 159, 3) := by decide +kernel
set_option maxRecDepth 20000 in
theorem d_293_1903 : decode (js_b 293) 1903 = .ok (.iload 6, 2) := by decide +kernel
set_option maxRecDepth 20000 in
theorem d_293_1905 : decode (js_b 293) 1905 = .ok (.if_icmp .eq 5, 3) := by decide +kernel
set_option maxRecDepth 20000 in
theorem d_293_1908 : decode (js_b 293) 1908 = .ok (.iconst 0, 1) := by decide +kernel
set_option maxRecDepth 20000 in
theorem d_293_1909 : decode (js_b 293) 1909 = .ok (.ireturn, 1) := by decide +kernel
set_option maxRecDepth 20000 in
theorem d_293_1910 : decode (js_b 293) 1910 = .ok (.iload 6, 2) := by decide +kernel
set_option maxRecDepth 20000 in
theorem d_293_1912 : decode (js_b 293) 1912 = .ok (.ifCond .ne 15, 3) := by decide +kernel
set_option maxRecDepth 20000 in
theorem d_293_1915 : decode (js_b 293) 1915 = .ok (.aload_n 3, 1) := by decide +kernel
set_option maxRecDepth 20000 in
theorem d_293_1916 : decode (js_b 293) 1916 = .ok (.iconst 0, 1) := by decide +kernel
set_option maxRecDepth 20000 in
theorem d_293_1917 : decode (js_b 293) 1917 = .ok (.laload, 1) := by decide +kernel
set_option maxRecDepth 20000 in
theorem d_293_1918 : decode (js_b 293) 1918 = .ok (.iload 7, 2) := by decide +kernel
set_option maxRecDepth 20000 in
theorem d_293_1920 : decode (js_b 293) 1920 = .ok (.i2l, 1) := by decide +kernel
set_option maxRecDepth 20000 in
theorem d_293_1921 : decode (js_b 293) 1921 = .ok (.lcmp, 1) := by decide +kernel
set_option maxRecDepth 20000 in
theorem d_293_1922 : decode (js_b 293) 1922 = .ok (.ifCond .eq 5, 3) := by decide +kernel
set_option maxRecDepth 20000 in
theorem d_293_1925 : decode (js_b 293) 1925 = .ok (.iconst 0, 1) := by decide +kernel
set_option maxRecDepth 20000 in
theorem d_293_1926 : decode (js_b 293) 1926 = .ok (.ireturn, 1) := by decide +kernel
set_option maxRecDepth 20000 in
theorem d_293_1927 : decode (js_b 293) 1927 = .ok (.goto 924, 3) := by decide +kernel
set_option maxRecDepth 20000 in
theorem d_293_1930 : decode (js_b 293) 1930 = .ok (.aload_n 1, 1) := by decide +kernel
set_option maxRecDepth 20000 in
theorem d_293_1931 : decode (js_b 293) 1931 = .ok (.aload_n 0, 1) := by decide +kernel
set_option maxRecDepth 20000 in
theorem d_293_1932 : decode (js_b 293) 1932 = .ok (.iload 5, 2) := by decide +kernel
set_option maxRecDepth 20000 in
theorem d_293_1934 : decode (js_b 293) 1934 = .ok (.iconst 1, 1) := by decide +kernel
set_option maxRecDepth 20000 in
theorem d_293_1935 : decode (js_b 293) 1935 = .ok (.iadd, 1) := by decide +kernel
set_option maxRecDepth 20000 in
theorem d_293_1936 : decode (js_b 293) 1936 = .ok (.iaload, 1) := by decide +kernel
set_option maxRecDepth 20000 in
theorem d_293_1937 : decode (js_b 293) 1937 = .ok (.aload_n 0, 1) := by decide +kernel
set_option maxRecDepth 20000 in
theorem d_293_1938 : decode (js_b 293) 1938 = .ok (.iload 5, 2) := by decide +kernel
set_option maxRecDepth 20000 in
theorem d_293_1940 : decode (js_b 293) 1940 = .ok (.iconst 2, 1) := by decide +kernel
set_option maxRecDepth 20000 in
theorem d_293_1941 : decode (js_b 293) 1941 = .ok (.iadd, 1) := by decide +kernel
set_option maxRecDepth 20000 in
theorem d_293_1942 : decode (js_b 293) 1942 = .ok (.iaload, 1) := by decide +kernel
set_option maxRecDepth 20000 in
theorem d_293_1943 : decode (js_b 293) 1943 = .ok (.aload_n 0, 1) := by decide +kernel
set_option maxRecDepth 20000 in
theorem d_293_1944 : decode (js_b 293) 1944 = .ok (.iload 5, 2) := by decide +kernel
set_option maxRecDepth 20000 in
theorem d_293_1946 : decode (js_b 293) 1946 = .ok (.iconst 3, 1) := by decide +kernel
set_option maxRecDepth 20000 in
theorem d_293_1947 : decode (js_b 293) 1947 = .ok (.iadd, 1) := by decide +kernel
set_option maxRecDepth 20000 in
theorem d_293_1948 : decode (js_b 293) 1948 = .ok (.iaload, 1) := by decide +kernel
set_option maxRecDepth 20000 in
theorem d_293_1949 : decode (js_b 293) 1949 = .ok (.aload_n 3, 1) := by decide +kernel
set_option maxRecDepth 20000 in
theorem d_293_1950 : decode (js_b 293) 1950 = .ok (.invokestatic 275, 3) := by decide +kernel
set_option maxRecDepth 20000 in
theorem d_293_1953 : decode (js_b 293) 1953 = .ok (.istore 6, 2) := by decide +kernel
set_option maxRecDepth 20000 in
theorem d_293_1955 : decode (js_b 293) 1955 = .ok (.aload_n 2, 1) := by decide +kernel
set_option maxRecDepth 20000 in
theorem d_293_1956 : decode (js_b 293) 1956 = .ok (.aload_n 0, 1) := by decide +kernel
set_option maxRecDepth 20000 in
theorem d_293_1957 : decode (js_b 293) 1957 = .ok (.iload 5, 2) := by decide +kernel
set_option maxRecDepth 20000 in
theorem d_293_1959 : decode (js_b 293) 1959 = .ok (.iconst 1, 1) := by decide +kernel
set_option maxRecDepth 20000 in
theorem d_293_1960 : decode (js_b 293) 1960 = .ok (.iadd, 1) := by decide +kernel
set_option maxRecDepth 20000 in
theorem d_293_1961 : decode (js_b 293) 1961 = .ok (.iaload, 1) := by decide +kernel
set_option maxRecDepth 20000 in
theorem d_293_1962 : decode (js_b 293) 1962 = .ok (.aload_n 0, 1) := by decide +kernel
set_option maxRecDepth 20000 in
theorem d_293_1963 : decode (js_b 293) 1963 = .ok (.iload 5, 2) := by decide +kernel
set_option maxRecDepth 20000 in
theorem d_293_1965 : decode (js_b 293) 1965 = .ok (.iconst 2, 1) := by decide +kernel
set_option maxRecDepth 20000 in
theorem d_293_1966 : decode (js_b 293) 1966 = .ok (.iadd, 1) := by decide +kernel
set_option maxRecDepth 20000 in
theorem d_293_1967 : decode (js_b 293) 1967 = .ok (.iaload, 1) := by decide +kernel
set_option maxRecDepth 20000 in
theorem d_293_1968 : decode (js_b 293) 1968 = .ok (.aload_n 0, 1) := by decide +kernel
set_option maxRecDepth 20000 in
theorem d_293_1969 : decode (js_b 293) 1969 = .ok (.iload 5, 2) := by decide +kernel
set_option maxRecDepth 20000 in
theorem d_293_1971 : decode (js_b 293) 1971 = .ok (.iconst 3, 1) := by decide +kernel
set_option maxRecDepth 20000 in
theorem d_293_1972 : decode (js_b 293) 1972 = .ok (.iadd, 1) := by decide +kernel
set_option maxRecDepth 20000 in
theorem d_293_1973 : decode (js_b 293) 1973 = .ok (.iaload, 1) := by decide +kernel
set_option maxRecDepth 20000 in
theorem d_293_1974 : decode (js_b 293) 1974 = .ok (.invokevirtual 277, 3) := by decide +kernel
set_option maxRecDepth 20000 in
theorem d_293_1977 : decode (js_b 293) 1977 = .ok (.istore 7, 2) := by decide +kernel
set_option maxRecDepth 20000 in
theorem d_293_1979 : decode (js_b 293) 1979 = .ok (.aload_n 2, 1) := by decide +kernel
set_option maxRecDepth 20000 in
theorem d_293_1980 : decode (js_b 293) 1980 = .ok (.invokevirtual 159, 3) := by decide +kernel
set_option maxRecDepth 20000 in
theorem d_293_1983 : decode (js_b 293) 1983 = .ok (.iload 6, 2) := by decide +kernel
set_option maxRecDepth 20000 in
theorem d_293_1985 : decode (js_b 293) 1985 = .ok (.if_icmp .eq 5, 3) := by decide +kernel
set_option maxRecDepth 20000 in
theorem d_293_1988 : decode (js_b 293) 1988 = .ok (.iconst 0, 1) := by decide +kernel
set_option maxRecDepth 20000 in
theorem d_293_1989 : decode (js_b 293) 1989 = .ok (.ireturn, 1) := by decide +kernel
set_option maxRecDepth 20000 in
theorem d_293_1990 : decode (js_b 293) 1990 = .ok (.iload 6, 2) := by decide +kernel
set_option maxRecDepth 20000 in
theorem d_293_1992 : decode (js_b 293) 1992 = .ok (.ifCond .ne 15, 3) := by decide +kernel
set_option maxRecDepth 20000 in
theorem d_293_1995 : decode (js_b 293) 1995 = .ok (.aload_n 3, 1) := by decide +kernel
set_option maxRecDepth 20000 in
theorem d_293_1996 : decode (js_b 293) 1996 = .ok (.iconst 0, 1) := by decide +kernel
set_option maxRecDepth 20000 in
theorem d_293_1997 : decode (js_b 293) 1997 = .ok (.laload, 1) := by decide +kernel
set_option maxRecDepth 20000 in
theorem d_293_1998 : decode (js_b 293) 1998 = .ok (.iload 7, 2) := by decide +kernel
set_option maxRecDepth 20000 in
theorem d_293_2000 : decode (js_b 293) 2000 = .ok (.i2l, 1) := by decide +kernel
set_option maxRecDepth 20000 in
theorem d_293_2001 : decode (js_b 293) 2001 = .ok (.lcmp, 1) := by decide +kernel
set_option maxRecDepth 20000 in
theorem d_293_2002 : decode (js_b 293) 2002 = .ok (.ifCond .eq 5, 3) := by decide +kernel
set_option maxRecDepth 20000 in
theorem d_293_2005 : decode (js_b 293) 2005 = .ok (.iconst 0, 1) := by decide +kernel
set_option maxRecDepth 20000 in
theorem d_293_2006 : decode (js_b 293) 2006 = .ok (.ireturn, 1) := by decide +kernel
set_option maxRecDepth 20000 in
theorem d_293_2007 : decode (js_b 293) 2007 = .ok (.goto 844, 3) := by decide +kernel
set_option maxRecDepth 20000 in
theorem d_293_2010 : decode (js_b 293) 2010 = .ok (.aload_n 1, 1) := by decide +kernel
set_option maxRecDepth 20000 in
theorem d_293_2011 : decode (js_b 293) 2011 = .ok (.invokevirtual 278, 3) := by decide +kernel
set_option maxRecDepth 20000 in
theorem d_293_2014 : decode (js_b 293) 2014 = .ok (.aload_n 2, 1) := by decide +kernel
set_option maxRecDepth 20000 in
theorem d_293_2015 : decode (js_b 293) 2015 = .ok (.invokevirtual 281, 3) := by decide +kernel
set_option maxRecDepth 20000 in
theorem d_293_2018 : decode (js_b 293) 2018 = .ok (.if_icmp .eq 833, 3) := by decide +kernel
set_option maxRecDepth 20000 in
theorem d_293_2021 : decode (js_b 293) 2021 = .ok (.iconst 0, 1) := by decide +kernel
set_option maxRecDepth 20000 in
theorem d_293_2022 : decode (js_b 293) 2022 = .ok (.ireturn, 1) := by decide +kernel
set_option maxRecDepth 20000 in
theorem d_293_2023 : decode (js_b 293) 2023 = .ok (.aload_n 1, 1) := by decide +kernel
set_option maxRecDepth 20000 in
theorem d_293_2024 : decode (js_b 293) 2024 = .ok (.invokevirtual 282, 3) := by decide +kernel
set_option maxRecDepth 20000 in
theorem d_293_2027 : decode (js_b 293) 2027 = .ok (.aload_n 2, 1) := by decide +kernel
set_option maxRecDepth 20000 in
theorem d_293_2028 : decode (js_b 293) 2028 = .ok (.invokevirtual 285, 3) := by decide +kernel
set_option maxRecDepth 20000 in
theorem d_293_2031 : decode (js_b 293) 2031 = .ok (.if_icmp .eq 820, 3) := by decide +kernel
set_option maxRecDepth 20000 in
theorem d_293_2034 : decode (js_b 293) 2034 = .ok (.iconst 0, 1) := by decide +kernel
set_option maxRecDepth 20000 in
theorem d_293_2035 : decode (js_b 293) 2035 = .ok (.ireturn, 1) := by decide +kernel
set_option maxRecDepth 20000 in
theorem d_293_2036 : decode (js_b 293) 2036 = .ok (.aload_n 1, 1) := by decide +kernel
set_option maxRecDepth 20000 in
theorem d_293_2037 : decode (js_b 293) 2037 = .ok (.aload_n 0, 1) := by decide +kernel
set_option maxRecDepth 20000 in
theorem d_293_2038 : decode (js_b 293) 2038 = .ok (.iload 5, 2) := by decide +kernel
set_option maxRecDepth 20000 in
theorem d_293_2040 : decode (js_b 293) 2040 = .ok (.iconst 1, 1) := by decide +kernel
set_option maxRecDepth 20000 in
theorem d_293_2041 : decode (js_b 293) 2041 = .ok (.iadd, 1) := by decide +kernel
set_option maxRecDepth 20000 in
theorem d_293_2042 : decode (js_b 293) 2042 = .ok (.iaload, 1) := by decide +kernel
set_option maxRecDepth 20000 in
theorem d_293_2043 : decode (js_b 293) 2043 = .ok (.aload_n 3, 1) := by decide +kernel
set_option maxRecDepth 20000 in
theorem d_293_2044 : decode (js_b 293) 2044 = .ok (.invokestatic 286, 3) := by decide +kernel
set_option maxRecDepth 20000 in
theorem d_293_2047 : decode (js_b 293) 2047 = .ok (.istore 6, 2) := by decide +kernel
set_option maxRecDepth 20000 in
theorem d_293_2049 : decode (js_b 293) 2049 = .ok (.aload_n 2, 1) := by decide +kernel
set_option maxRecDepth 20000 in
theorem d_293_2050 : decode (js_b 293) 2050 = .ok (.aload_n 0, 1) := by decide +kernel
set_option maxRecDepth 20000 in
theorem d_293_2051 : decode (js_b 293) 2051 = .ok (.iload 5, 2) := by decide +kernel
set_option maxRecDepth 20000 in
theorem d_293_2053 : decode (js_b 293) 2053 = .ok (.iconst 1, 1) := by decide +kernel
set_option maxRecDepth 20000 in
theorem d_293_2054 : decode (js_b 293) 2054 = .ok (.iadd, 1) := by decide +kernel
set_option maxRecDepth 20000 in
theorem d_293_2055 : decode (js_b 293) 2055 = .ok (.iaload, 1) := by decide +kernel
set_option maxRecDepth 20000 in
theorem d_293_2056 : decode (js_b 293) 2056 = .ok (.invokevirtual 288, 3) := by decide +kernel
set_option maxRecDepth 20000 in
theorem d_293_2059 : decode (js_b 293) 2059 = .ok (.istore 7, 2) := by decide +kernel
set_option maxRecDepth 20000 in
theorem d_293_2061 : decode (js_b 293) 2061 = .ok (.aload_n 2, 1) := by decide +kernel
set_option maxRecDepth 20000 in
theorem d_293_2062 : decode (js_b 293) 2062 = .ok (.invokevirtual 159, 3) := by decide +kernel
set_option maxRecDepth 20000 in
theorem d_293_2065 : decode (js_b 293) 2065 = .ok (.iload 6, 2) := by decide +kernel
set_option maxRecDepth 20000 in
theorem d_293_2067 : decode (js_b 293) 2067 = .ok (.if_icmp .eq 5, 3) := by decide +kernel
set_option maxRecDepth 20000 in
theorem d_293_2070 : decode (js_b 293) 2070 = .ok (.iconst 0, 1) := by decide +kernel
set_option maxRecDepth 20000 in
theorem d_293_2071 : decode (js_b 293) 2071 = .ok (.ireturn, 1) := by decide +kernel
set_option maxRecDepth 20000 in
theorem d_293_2072 : decode (js_b 293) 2072 = .ok (.iload 6, 2) := by decide +kernel
set_option maxRecDepth 20000 in
theorem d_293_2074 : decode (js_b 293) 2074 = .ok (.ifCond .ne 15, 3) := by decide +kernel
set_option maxRecDepth 20000 in
theorem d_293_2077 : decode (js_b 293) 2077 = .ok (.aload_n 3, 1) := by decide +kernel
set_option maxRecDepth 20000 in
theorem d_293_2078 : decode (js_b 293) 2078 = .ok (.iconst 0, 1) := by decide +kernel
set_option maxRecDepth 20000 in
theorem d_293_2079 : decode (js_b 293) 2079 = .ok (.laload, 1) := by decide +kernel
set_option maxRecDepth 20000 in
theorem d_293_2080 : decode (js_b 293) 2080 = .ok (.iload 7, 2) := by decide +kernel
set_option maxRecDepth 20000 in
theorem d_293_2082 : decode (js_b 293) 2082 = .ok (.i2l, 1) := by decide +kernel
set_option maxRecDepth 20000 in
theorem d_293_2083 : decode (js_b 293) 2083 = .ok (.lcmp, 1) := by decide +kernel
set_option maxRecDepth 20000 in
theorem d_293_2084 : decode (js_b 293) 2084 = .ok (.ifCond .eq 5, 3) := by decide +kernel
set_option maxRecDepth 20000 in
theorem d_293_2087 : decode (js_b 293) 2087 = .ok (.iconst 0, 1) := by decide +kernel
set_option maxRecDepth 20000 in
theorem d_293_2088 : decode (js_b 293) 2088 = .ok (.ireturn, 1) := by decide +kernel
set_option maxRecDepth 20000 in
theorem d_293_2089 : decode (js_b 293) 2089 = .ok (.goto 762, 3) := by decide +kernel
set_option maxRecDepth 20000 in
theorem d_293_2092 : decode (js_b 293) 2092 = .ok (.aload_n 1, 1) := by decide +kernel
set_option maxRecDepth 20000 in
theorem d_293_2093 : decode (js_b 293) 2093 = .ok (.aload_n 0, 1) := by decide +kernel
set_option maxRecDepth 20000 in
theorem d_293_2094 : decode (js_b 293) 2094 = .ok (.iload 5, 2) := by decide +kernel
set_option maxRecDepth 20000 in
theorem d_293_2096 : decode (js_b 293) 2096 = .ok (.iconst 1, 1) := by decide +kernel
set_option maxRecDepth 20000 in
theorem d_293_2097 : decode (js_b 293) 2097 = .ok (.iadd, 1) := by decide +kernel
set_option maxRecDepth 20000 in
theorem d_293_2098 : decode (js_b 293) 2098 = .ok (.iaload, 1) := by decide +kernel
set_option maxRecDepth 20000 in
theorem d_293_2099 : decode (js_b 293) 2099 = .ok (.aload_n 3, 1) := by decide +kernel
set_option maxRecDepth 20000 in
theorem d_293_2100 : decode (js_b 293) 2100 = .ok (.invokestatic 289, 3) := by decide +kernel
set_option maxRecDepth 20000 in
theorem d_293_2103 : decode (js_b 293) 2103 = .ok (.istore 6, 2) := by decide +kernel
set_option maxRecDepth 20000 in
theorem d_293_2105 : decode (js_b 293) 2105 = .ok (.aload_n 2, 1) := by decide +kernel
set_option maxRecDepth 20000 in
theorem d_293_2106 : decode (js_b 293) 2106 = .ok (.aload_n 0, 1) := by decide +kernel
set_option maxRecDepth 20000 in
theorem d_293_2107 : decode (js_b 293) 2107 = .ok (.iload 5, 2) := by decide +kernel
set_option maxRecDepth 20000 in
theorem d_293_2109 : decode (js_b 293) 2109 = .ok (.iconst 1, 1) := by decide +kernel
set_option maxRecDepth 20000 in
theorem d_293_2110 : decode (js_b 293) 2110 = .ok (.iadd, 1) := by decide +kernel
set_option maxRecDepth 20000 in
theorem d_293_2111 : decode (js_b 293) 2111 = .ok (.iaload, 1) := by decide +kernel
set_option maxRecDepth 20000 in
theorem d_293_2112 : decode (js_b 293) 2112 = .ok (.invokevirtual 291, 3) := by decide +kernel
set_option maxRecDepth 20000 in
theorem d_293_2115 : decode (js_b 293) 2115 = .ok (.lstore 7, 2) := by decide +kernel
set_option maxRecDepth 20000 in
theorem d_293_2117 : decode (js_b 293) 2117 = .ok (.aload_n 2, 1) := by decide +kernel
set_option maxRecDepth 20000 in
theorem d_293_2118 : decode (js_b 293) 2118 = .ok (.invokevirtual 159, 3) := by decide +kernel
set_option maxRecDepth 20000 in
theorem d_293_2121 : decode (js_b 293) 2121 = .ok (.iload 6, 2) := by decide +kernel
set_option maxRecDepth 20000 in
theorem d_293_2123 : decode (js_b 293) 2123 = .ok (.if_icmp .eq 5, 3) := by decide +kernel
set_option maxRecDepth 20000 in
theorem d_293_2126 : decode (js_b 293) 2126 = .ok (.iconst 0, 1) := by decide +kernel
set_option maxRecDepth 20000 in
theorem d_293_2127 : decode (js_b 293) 2127 = .ok (.ireturn, 1) := by decide +kernel
set_option maxRecDepth 20000 in
theorem d_293_2128 : decode (js_b 293) 2128 = .ok (.iload 6, 2) := by decide +kernel
set_option maxRecDepth 20000 in
theorem d_293_2130 : decode (js_b 293) 2130 = .ok (.ifCond .ne 14, 3) := by decide +kernel
set_option maxRecDepth 20000 in
theorem d_293_2133 : decode (js_b 293) 2133 = .ok (.aload_n 3, 1) := by decide +kernel
set_option maxRecDepth 20000 in
theorem d_293_2134 : decode (js_b 293) 2134 = .ok (.iconst 0, 1) := by decide +kernel
set_option maxRecDepth 20000 in
theorem d_293_2135 : decode (js_b 293) 2135 = .ok (.laload, 1) := by decide +kernel
set_option maxRecDepth 20000 in
theorem d_293_2136 : decode (js_b 293) 2136 = .ok (.lload 7, 2) := by decide +kernel
set_option maxRecDepth 20000 in
theorem d_293_2138 : decode (js_b 293) 2138 = .ok (.lcmp, 1) := by decide +kernel
set_option maxRecDepth 20000 in
theorem d_293_2139 : decode (js_b 293) 2139 = .ok (.ifCond .eq 5, 3) := by decide +kernel
set_option maxRecDepth 20000 in
theorem d_293_2142 : decode (js_b 293) 2142 = .ok (.iconst 0, 1) := by decide +kernel
set_option maxRecDepth 20000 in
theorem d_293_2143 : decode (js_b 293) 2143 = .ok (.ireturn, 1) := by decide +kernel
set_option maxRecDepth 20000 in
theorem d_293_2144 : decode (js_b 293) 2144 = .ok (.goto 707, 3) := by decide +kernel
set_option maxRecDepth 20000 in
theorem d_293_2147 : decode (js_b 293) 2147 = .ok (.aload_n 1, 1) := by decide +kernel
set_option maxRecDepth 20000 in
theorem d_293_2148 : decode (js_b 293) 2148 = .ok (.aload_n 3, 1) := by decide +kernel
set_option maxRecDepth 20000 in
theorem d_293_2149 : decode (js_b 293) 2149 = .ok (.invokestatic 292, 3) := by decide +kernel
set_option maxRecDepth 20000 in
theorem d_293_2152 : decode (js_b 293) 2152 = .ok (.istore 6, 2) := by decide +kernel
set_option maxRecDepth 20000 in
theorem d_293_2154 : decode (js_b 293) 2154 = .ok (.aload_n 2, 1) := by decide +kernel
set_option maxRecDepth 20000 in
theorem d_293_2155 : decode (js_b 293) 2155 = .ok (.invokevirtual 295, 3) := by decide +kernel
set_option maxRecDepth 20000 in
theorem d_293_2158 : decode (js_b 293) 2158 = .ok (.istore 7, 2) := by decide +kernel
set_option maxRecDepth 20000 in
theorem d_293_2160 : decode (js_b 293) 2160 = .ok (.aload_n 2, 1) := by decide +kernel
set_option maxRecDepth 20000 in
theorem d_293_2161 : decode (js_b 293) 2161 = .ok (.invokevirtual 159, 3) := by decide +kernel
set_option maxRecDepth 20000 in
theorem d_293_2164 : decode (js_b 293) 2164 = .ok (.iload 6, 2) := by decide +kernel
set_option maxRecDepth 20000 in
theorem d_293_2166 : decode (js_b 293) 2166 = .ok (.if_icmp .eq 5, 3) := by decide +kernel
set_option maxRecDepth 20000 in
theorem d_293_2169 : decode (js_b 293) 2169 = .ok (.iconst 0, 1) := by decide +kernel
set_option maxRecDepth 20000 in
theorem d_293_2170 : decode (js_b 293) 2170 = .ok (.ireturn, 1) := by decide +kernel
set_option maxRecDepth 20000 in
theorem d_293_2171 : decode (js_b 293) 2171 = .ok (.iload 6, 2) := by decide +kernel
set_option maxRecDepth 20000 in
theorem d_293_2173 : decode (js_b 293) 2173 = .ok (.ifCond .ne 15, 3) := by decide +kernel
set_option maxRecDepth 20000 in
theorem d_293_2176 : decode (js_b 293) 2176 = .ok (.aload_n 3, 1) := by decide +kernel
set_option maxRecDepth 20000 in
theorem d_293_2177 : decode (js_b 293) 2177 = .ok (.iconst 0, 1) := by decide +kernel
set_option maxRecDepth 20000 in
theorem d_293_2178 : decode (js_b 293) 2178 = .ok (.laload, 1) := by decide +kernel
set_option maxRecDepth 20000 in
theorem d_293_2179 : decode (js_b 293) 2179 = .ok (.iload 7, 2) := by decide +kernel
set_option maxRecDepth 20000 in
theorem d_293_2181 : decode (js_b 293) 2181 = .ok (.i2l, 1) := by decide +kernel
set_option maxRecDepth 20000 in
theorem d_293_2182 : decode (js_b 293) 2182 = .ok (.lcmp, 1) := by decide +kernel
set_option maxRecDepth 20000 in
theorem d_293_2183 : decode (js_b 293) 2183 = .ok (.ifCond .eq 5, 3) := by decide +kernel
set_option maxRecDepth 20000 in
theorem d_293_2186 : decode (js_b 293) 2186 = .ok (.iconst 0, 1) := by decide +kernel
set_option maxRecDepth 20000 in
theorem d_293_2187 : decode (js_b 293) 2187 = .ok (.ireturn, 1) := by decide +kernel
set_option maxRecDepth 20000 in
theorem d_293_2188 : decode (js_b 293) 2188 = .ok (.goto 663, 3) := by decide +kernel
set_option maxRecDepth 20000 in
theorem d_293_2191 : decode (js_b 293) 2191 = .ok (.aload_n 1, 1) := by decide +kernel
set_option maxRecDepth 20000 in
theorem d_293_2192 : decode (js_b 293) 2192 = .ok (.aload 4, 2) := by decide +kernel
set_option maxRecDepth 20000 in
theorem d_293_2194 : decode (js_b 293) 2194 = .ok (.invokestatic 296, 3) := by decide +kernel
set_option maxRecDepth 20000 in
theorem d_293_2197 : decode (js_b 293) 2197 = .ok (.istore 6, 2) := by decide +kernel
set_option maxRecDepth 20000 in
theorem d_293_2199 : decode (js_b 293) 2199 = .ok (.aload_n 2, 1) := by decide +kernel
set_option maxRecDepth 20000 in
theorem d_293_2200 : decode (js_b 293) 2200 = .ok (.invokevirtual 299, 3) := by decide +kernel
set_option maxRecDepth 20000 in
theorem d_293_2203 : decode (js_b 293) 2203 = .ok (.fstore 7, 2) := by decide +kernel
set_option maxRecDepth 20000 in
theorem d_293_2205 : decode (js_b 293) 2205 = .ok (.aload_n 2, 1) := by decide +kernel
set_option maxRecDepth 20000 in
theorem d_293_2206 : decode (js_b 293) 2206 = .ok (.invokevirtual 159, 3) := by decide +kernel
set_option maxRecDepth 20000 in
theorem d_293_2209 : decode (js_b 293) 2209 = .ok (.iload 6, 2) := by decide +kernel
set_option maxRecDepth 20000 in
theorem d_293_2211 : decode (js_b 293) 2211 = .ok (.if_icmp .eq 5, 3) := by decide +kernel
set_option maxRecDepth 20000 in
theorem d_293_2214 : decode (js_b 293) 2214 = .ok (.iconst 0, 1) := by decide +kernel
set_option maxRecDepth 20000 in
theorem d_293_2215 : decode (js_b 293) 2215 = .ok (.ireturn, 1) := by decide +kernel
set_option maxRecDepth 20000 in
theorem d_293_2216 : decode (js_b 293) 2216 = .ok (.iload 6, 2) := by decide +kernel
set_option maxRecDepth 20000 in
theorem d_293_2218 : decode (js_b 293) 2218 = .ok (.ifCond .ne 36, 3) := by decide +kernel
set_option maxRecDepth 20000 in
theorem d_293_2221 : decode (js_b 293) 2221 = .ok (.aload 4, 2) := by decide +kernel
set_option maxRecDepth 20000 in
theorem d_293_2223 : decode (js_b 293) 2223 = .ok (.iconst 0, 1) := by decide +kernel
set_option maxRecDepth 20000 in
theorem d_293_2224 : decode (js_b 293) 2224 = .ok (.daload, 1) := by decide +kernel
set_option maxRecDepth 20000 in
theorem d_293_2225 : decode (js_b 293) 2225 = .ok (.fload 7, 2) := by decide +kernel
set_option maxRecDepth 20000 in
theorem d_293_2227 : decode (js_b 293) 2227 = .ok (.f2d, 1) := by decide +kernel
set_option maxRecDepth 20000 in
theorem d_293_2228 : decode (js_b 293) 2228 = .ok (.dcmp .l, 1) := by decide +kernel
set_option maxRecDepth 20000 in
theorem d_293_2229 : decode (js_b 293) 2229 = .ok (.ifCond .eq 25, 3) := by decide +kernel
set_option maxRecDepth 20000 in
theorem d_293_2232 : decode (js_b 293) 2232 = .ok (.aload 4, 2) := by decide +kernel
set_option maxRecDepth 20000 in
theorem d_293_2234 : decode (js_b 293) 2234 = .ok (.iconst 0, 1) := by decide +kernel
set_option maxRecDepth 20000 in
theorem d_293_2235 : decode (js_b 293) 2235 = .ok (.daload, 1) := by decide +kernel
set_option maxRecDepth 20000 in
theorem d_293_2236 : decode (js_b 293) 2236 = .ok (.aload 4, 2) := by decide +kernel
set_option maxRecDepth 20000 in
theorem d_293_2238 : decode (js_b 293) 2238 = .ok (.iconst 0, 1) := by decide +kernel
set_option maxRecDepth 20000 in
theorem d_293_2239 : decode (js_b 293) 2239 = .ok (.daload, 1) := by decide +kernel
set_option maxRecDepth 20000 in
theorem d_293_2240 : decode (js_b 293) 2240 = .ok (.dcmp .l, 1) := by decide +kernel
set_option maxRecDepth 20000 in
theorem d_293_2241 : decode (js_b 293) 2241 = .ok (.ifCond .eq 11, 3) := by decide +kernel
set_option maxRecDepth 20000 in
theorem d_293_2244 : decode (js_b 293) 2244 = .ok (.fload 7, 2) := by decide +kernel
set_option maxRecDepth 20000 in
theorem d_293_2246 : decode (js_b 293) 2246 = .ok (.fload 7, 2) := by decide +kernel
set_option maxRecDepth 20000 in
theorem d_293_2248 : decode (js_b 293) 2248 = .ok (.fcmp .l, 1) := by decide +kernel
set_option maxRecDepth 20000 in
theorem d_293_2249 : decode (js_b 293) 2249 = .ok (.ifCond .ne 5, 3) := by decide +kernel
set_option maxRecDepth 20000 in
theorem d_293_2252 : decode (js_b 293) 2252 = .ok (.iconst 0, 1) := by decide +kernel
set_option maxRecDepth 20000 in
theorem d_293_2253 : decode (js_b 293) 2253 = .ok (.ireturn, 1) := by decide +kernel
set_option maxRecDepth 20000 in
theorem d_293_2254 : decode (js_b 293) 2254 = .ok (.goto 597, 3) := by decide +kernel
set_option maxRecDepth 20000 in
theorem d_293_2257 : decode (js_b 293) 2257 = .ok (.aload_n 1, 1) := by decide +kernel
set_option maxRecDepth 20000 in
theorem d_293_2258 : decode (js_b 293) 2258 = .ok (.aload_n 3, 1) := by decide +kernel
set_option maxRecDepth 20000 in
theorem d_293_2259 : decode (js_b 293) 2259 = .ok (.invokestatic 300, 3) := by decide +kernel
set_option maxRecDepth 20000 in
theorem d_293_2262 : decode (js_b 293) 2262 = .ok (.istore 6, 2) := by decide +kernel
set_option maxRecDepth 20000 in
theorem d_293_2264 : decode (js_b 293) 2264 = .ok (.aload_n 2, 1) := by decide +kernel
set_option maxRecDepth 20000 in
theorem d_293_2265 : decode (js_b 293) 2265 = .ok (.invokevirtual 302, 3) := by decide +kernel
set_option maxRecDepth 20000 in
theorem d_293_2268 : decode (js_b 293) 2268 = .ok (.istore 7, 2) := by decide +kernel
set_option maxRecDepth 20000 in
theorem d_293_2270 : decode (js_b 293) 2270 = .ok (.aload_n 2, 1) := by decide +kernel
set_option maxRecDepth 20000 in
theorem d_293_2271 : decode (js_b 293) 2271 = .ok (.invokevirtual 159, 3) := by decide +kernel
set_option maxRecDepth 20000 in
theorem d_293_2274 : decode (js_b 293) 2274 = .ok (.iload 6, 2) := by decide +kernel
set_option maxRecDepth 20000 in
theorem d_293_2276 : decode (js_b 293) 2276 = .ok (.if_icmp .eq 5, 3) := by decide +kernel
set_option maxRecDepth 20000 in
theorem d_293_2279 : decode (js_b 293) 2279 = .ok (.iconst 0, 1) := by decide +kernel
set_option maxRecDepth 20000 in
theorem d_293_2280 : decode (js_b 293) 2280 = .ok (.ireturn, 1) := by decide +kernel
set_option maxRecDepth 20000 in
theorem d_293_2281 : decode (js_b 293) 2281 = .ok (.iload 6, 2) := by decide +kernel
set_option maxRecDepth 20000 in
theorem d_293_2283 : decode (js_b 293) 2283 = .ok (.ifCond .ne 15, 3) := by decide +kernel
set_option maxRecDepth 20000 in
theorem d_293_2286 : decode (js_b 293) 2286 = .ok (.aload_n 3, 1) := by decide +kernel
set_option maxRecDepth 20000 in
theorem d_293_2287 : decode (js_b 293) 2287 = .ok (.iconst 0, 1) := by decide +kernel
set_option maxRecDepth 20000 in
theorem d_293_2288 : decode (js_b 293) 2288 = .ok (.laload, 1) := by decide +kernel
set_option maxRecDepth 20000 in
theorem d_293_2289 : decode (js_b 293) 2289 = .ok (.iload 7, 2) := by decide +kernel
set_option maxRecDepth 20000 in
theorem d_293_2291 : decode (js_b 293) 2291 = .ok (.i2l, 1) := by decide +kernel
set_option maxRecDepth 20000 in
theorem d_293_2292 : decode (js_b 293) 2292 = .ok (.lcmp, 1) := by decide +kernel
set_option maxRecDepth 20000 in
theorem d_293_2293 : decode (js_b 293) 2293 = .ok (.ifCond .eq 5, 3) := by decide +kernel
set_option maxRecDepth 20000 in
theorem d_293_2296 : decode (js_b 293) 2296 = .ok (.iconst 0, 1) := by decide +kernel
set_option maxRecDepth 20000 in
theorem d_293_2297 : decode (js_b 293) 2297 = .ok (.ireturn, 1) := by decide +kernel
set_option maxRecDepth 20000 in
theorem d_293_2298 : decode (js_b 293) 2298 = .ok (.goto 553, 3) := by decide +kernel
set_option maxRecDepth 20000 in
theorem d_293_2301 : decode (js_b 293) 2301 = .ok (.aload_n 1, 1) := by decide +kernel
set_option maxRecDepth 20000 in
theorem d_293_2302 : decode (js_b 293) 2302 = .ok (.aload 4, 2) := by decide +kernel
set_option maxRecDepth 20000 in
theorem d_293_2304 : decode (js_b 293) 2304 = .ok (.invokestatic 303, 3) := by decide +kernel
set_option maxRecDepth 20000 in
theorem d_293_2307 : decode (js_b 293) 2307 = .ok (.istore 6, 2) := by decide +kernel
set_option maxRecDepth 20000 in
theorem d_293_2309 : decode (js_b 293) 2309 = .ok (.aload_n 2, 1) := by decide +kernel
set_option maxRecDepth 20000 in
theorem d_293_2310 : decode (js_b 293) 2310 = .ok (.invokevirtual 305, 3) := by decide +kernel
set_option maxRecDepth 20000 in
theorem d_293_2313 : decode (js_b 293) 2313 = .ok (.dstore 7, 2) := by decide +kernel
set_option maxRecDepth 20000 in
theorem d_293_2315 : decode (js_b 293) 2315 = .ok (.aload_n 2, 1) := by decide +kernel
set_option maxRecDepth 20000 in
theorem d_293_2316 : decode (js_b 293) 2316 = .ok (.invokevirtual 159, 3) := by decide +kernel
set_option maxRecDepth 20000 in
theorem d_293_2319 : decode (js_b 293) 2319 = .ok (.iload 6, 2) := by decide +kernel
set_option maxRecDepth 20000 in
theorem d_293_2321 : decode (js_b 293) 2321 = .ok (.if_icmp .eq 5, 3) := by decide +kernel
set_option maxRecDepth 20000 in
theorem d_293_2324 : decode (js_b 293) 2324 = .ok (.iconst 0, 1) := by decide +kernel
set_option maxRecDepth 20000 in
theorem d_293_2325 : decode (js_b 293) 2325 = .ok (.ireturn, 1) := by decide +kernel
set_option maxRecDepth 20000 in
theorem d_293_2326 : decode (js_b 293) 2326 = .ok (.iload 6, 2) := by decide +kernel
set_option maxRecDepth 20000 in
theorem d_293_2328 : decode (js_b 293) 2328 = .ok (.ifCond .ne 35, 3) := by decide +kernel
set_option maxRecDepth 20000 in
theorem d_293_2331 : decode (js_b 293) 2331 = .ok (.aload 4, 2) := by decide +kernel
set_option maxRecDepth 20000 in
theorem d_293_2333 : decode (js_b 293) 2333 = .ok (.iconst 0, 1) := by decide +kernel
set_option maxRecDepth 20000 in
theorem d_293_2334 : decode (js_b 293) 2334 = .ok (.daload, 1) := by decide +kernel
set_option maxRecDepth 20000 in
theorem d_293_2335 : decode (js_b 293) 2335 = .ok (.dload 7, 2) := by decide +kernel
set_option maxRecDepth 20000 in
theorem d_293_2337 : decode (js_b 293) 2337 = .ok (.dcmp .l, 1) := by decide +kernel
set_option maxRecDepth 20000 in
theorem d_293_2338 : decode (js_b 293) 2338 = .ok (.ifCond .eq 25, 3) := by decide +kernel
set_option maxRecDepth 20000 in
theorem d_293_2341 : decode (js_b 293) 2341 = .ok (.aload 4, 2) := by decide +kernel
set_option maxRecDepth 20000 in
theorem d_293_2343 : decode (js_b 293) 2343 = .ok (.iconst 0, 1) := by decide +kernel
set_option maxRecDepth 20000 in
theorem d_293_2344 : decode (js_b 293) 2344 = .ok (.daload, 1) := by decide +kernel
set_option maxRecDepth 20000 in
theorem d_293_2345 : decode (js_b 293) 2345 = .ok (.aload 4, 2) := by decide +kernel
set_option maxRecDepth 20000 in
theorem d_293_2347 : decode (js_b 293) 2347 = .ok (.iconst 0, 1) := by decide +kernel
set_option maxRecDepth 20000 in
theorem d_293_2348 : decode (js_b 293) 2348 = .ok (.daload, 1) := by decide +kernel
set_option maxRecDepth 20000 in
theorem d_293_2349 : decode (js_b 293) 2349 = .ok (.dcmp .l, 1) := by decide +kernel
set_option maxRecDepth 20000 in
theorem d_293_2350 : decode (js_b 293) 2350 = .ok (.ifCond .eq 11, 3) := by decide +kernel
set_option maxRecDepth 20000 in
theorem d_293_2353 : decode (js_b 293) 2353 = .ok (.dload 7, 2) := by decide +kernel
set_option maxRecDepth 20000 in
theorem d_293_2355 : decode (js_b 293) 2355 = .ok (.dload 7, 2) := by decide +kernel
set_option maxRecDepth 20000 in
theorem d_293_2357 : decode (js_b 293) 2357 = .ok (.dcmp .l, 1) := by decide +kernel
set_option maxRecDepth 20000 in
theorem d_293_2358 : decode (js_b 293) 2358 = .ok (.ifCond .ne 5, 3) := by decide +kernel
set_option maxRecDepth 20000 in
theorem d_293_2361 : decode (js_b 293) 2361 = .ok (.iconst 0, 1) := by decide +kernel
set_option maxRecDepth 20000 in
theorem d_293_2362 : decode (js_b 293) 2362 = .ok (.ireturn, 1) := by decide +kernel
set_option maxRecDepth 20000 in
theorem d_293_2363 : decode (js_b 293) 2363 = .ok (.goto 488, 3) := by decide +kernel
set_option maxRecDepth 20000 in
theorem d_293_2366 : decode (js_b 293) 2366 = .ok (.aload_n 1, 1) := by decide +kernel
set_option maxRecDepth 20000 in
theorem d_293_2367 : decode (js_b 293) 2367 = .ok (.invokevirtual 306, 3) := by decide +kernel
set_option maxRecDepth 20000 in
theorem d_293_2370 : decode (js_b 293) 2370 = .ok (.aload_n 2, 1) := by decide +kernel
set_option maxRecDepth 20000 in
theorem d_293_2371 : decode (js_b 293) 2371 = .ok (.invokevirtual 310, 3) := by decide +kernel
set_option maxRecDepth 20000 in
theorem d_293_2374 : decode (js_b 293) 2374 = .ok (.if_icmp .eq 477, 3) := by decide +kernel
set_option maxRecDepth 20000 in
theorem d_293_2377 : decode (js_b 293) 2377 = .ok (.iconst 0, 1) := by decide +kernel
set_option maxRecDepth 20000 in
theorem d_293_2378 : decode (js_b 293) 2378 = .ok (.ireturn, 1) := by decide +kernel
set_option maxRecDepth 20000 in
theorem d_293_2379 : decode (js_b 293) 2379 = .ok (.aload_n 1, 1) := by decide +kernel
set_option maxRecDepth 20000 in
theorem d_293_2380 : decode (js_b 293) 2380 = .ok (.aload_n 0, 1) := by decide +kernel
set_option maxRecDepth 20000 in
theorem d_293_2381 : decode (js_b 293) 2381 = .ok (.iload 5, 2) := by decide +kernel
set_option maxRecDepth 20000 in
theorem d_293_2383 : decode (js_b 293) 2383 = .ok (.iconst 1, 1) := by decide +kernel
set_option maxRecDepth 20000 in
theorem d_293_2384 : decode (js_b 293) 2384 = .ok (.iadd, 1) := by decide +kernel
set_option maxRecDepth 20000 in
theorem d_293_2385 : decode (js_b 293) 2385 = .ok (.iaload, 1) := by decide +kernel
set_option maxRecDepth 20000 in
theorem d_293_2386 : decode (js_b 293) 2386 = .ok (.aload_n 3, 1) := by decide +kernel
set_option maxRecDepth 20000 in
theorem d_293_2387 : decode (js_b 293) 2387 = .ok (.invokestatic 311, 3) := by decide +kernel
set_option maxRecDepth 20000 in
theorem d_293_2390 : decode (js_b 293) 2390 = .ok (.istore 6, 2) := by decide +kernel
set_option maxRecDepth 20000 in
theorem d_293_2392 : decode (js_b 293) 2392 = .ok (.aload_n 2, 1) := by decide +kernel
set_option maxRecDepth 20000 in
theorem d_293_2393 : decode (js_b 293) 2393 = .ok (.aload_n 0, 1) := by decide +kernel
set_option maxRecDepth 20000 in
theorem d_293_2394 : decode (js_b 293) 2394 = .ok (.iload 5, 2) := by decide +kernel
set_option maxRecDepth 20000 in
theorem d_293_2396 : decode (js_b 293) 2396 = .ok (.iconst 1, 1) := by decide +kernel
set_option maxRecDepth 20000 in
theorem d_293_2397 : decode (js_b 293) 2397 = .ok (.iadd, 1) := by decide +kernel
set_option maxRecDepth 20000 in
theorem d_293_2398 : decode (js_b 293) 2398 = .ok (.iaload, 1) := by decide +kernel
set_option maxRecDepth 20000 in
theorem d_293_2399 : decode (js_b 293) 2399 = .ok (.invokevirtual 313, 3) := by decide +kernel
set_option maxRecDepth 20000 in
theorem d_293_2402 : decode (js_b 293) 2402 = .ok (.istore 7, 2) := by decide +kernel
set_option maxRecDepth 20000 in
theorem d_293_2404 : decode (js_b 293) 2404 = .ok (.aload_n 2, 1) := by decide +kernel
set_option maxRecDepth 20000 in
theorem d_293_2405 : decode (js_b 293) 2405 = .ok (.invokevirtual 159, 3) := by decide +kernel
set_option maxRecDepth 20000 in
theorem d_293_2408 : decode (js_b 293) 2408 = .ok (.iload 6, 2) := by decide +kernel
set_option maxRecDepth 20000 in
theorem d_293_2410 : decode (js_b 293) 2410 = .ok (.if_icmp .eq 5, 3) := by decide +kernel
set_option maxRecDepth 20000 in
theorem d_293_2413 : decode (js_b 293) 2413 = .ok (.iconst 0, 1) := by decide +kernel
set_option maxRecDepth 20000 in
theorem d_293_2414 : decode (js_b 293) 2414 = .ok (.ireturn, 1) := by decide +kernel
set_option maxRecDepth 20000 in
theorem d_293_2415 : decode (js_b 293) 2415 = .ok (.iload 6, 2) := by decide +kernel
set_option maxRecDepth 20000 in
theorem d_293_2417 : decode (js_b 293) 2417 = .ok (.ifCond .ne 15, 3) := by decide +kernel
set_option maxRecDepth 20000 in
theorem d_293_2420 : decode (js_b 293) 2420 = .ok (.aload_n 3, 1) := by decide +kernel
set_option maxRecDepth 20000 in
theorem d_293_2421 : decode (js_b 293) 2421 = .ok (.iconst 0, 1) := by decide +kernel
set_option maxRecDepth 20000 in
theorem d_293_2422 : decode (js_b 293) 2422 = .ok (.laload, 1) := by decide +kernel
set_option maxRecDepth 20000 in
theorem d_293_2423 : decode (js_b 293) 2423 = .ok (.iload 7, 2) := by decide +kernel
set_option maxRecDepth 20000 in
theorem d_293_2425 : decode (js_b 293) 2425 = .ok (.i2l, 1) := by decide +kernel
set_option maxRecDepth 20000 in
theorem d_293_2426 : decode (js_b 293) 2426 = .ok (.lcmp, 1) := by decide +kernel
set_option maxRecDepth 20000 in
theorem d_293_2427 : decode (js_b 293) 2427 = .ok (.ifCond .eq 5, 3) := by decide +kernel
set_option maxRecDepth 20000 in
theorem d_293_2430 : decode (js_b 293) 2430 = .ok (.iconst 0, 1) := by decide +kernel
set_option maxRecDepth 20000 in
theorem d_293_2431 : decode (js_b 293) 2431 = .ok (.ireturn, 1) := by decide +kernel
set_option maxRecDepth 20000 in
theorem d_293_2432 : decode (js_b 293) 2432 = .ok (.goto 419, 3) := by decide +kernel
set_option maxRecDepth 20000 in
theorem d_293_2435 : decode (js_b 293) 2435 = .ok (.aload_n 1, 1) := by decide +kernel
set_option maxRecDepth 20000 in
theorem d_293_2436 : decode (js_b 293) 2436 = .ok (.aload_n 0, 1) := by decide +kernel
set_option maxRecDepth 20000 in
theorem d_293_2437 : decode (js_b 293) 2437 = .ok (.iload 5, 2) := by decide +kernel
set_option maxRecDepth 20000 in
theorem d_293_2439 : decode (js_b 293) 2439 = .ok (.iconst 1, 1) := by decide +kernel
set_option maxRecDepth 20000 in
theorem d_293_2440 : decode (js_b 293) 2440 = .ok (.iadd, 1) := by decide +kernel
set_option maxRecDepth 20000 in
theorem d_293_2441 : decode (js_b 293) 2441 = .ok (.iaload, 1) := by decide +kernel
set_option maxRecDepth 20000 in
theorem d_293_2442 : decode (js_b 293) 2442 = .ok (.aload_n 3, 1) := by decide +kernel
set_option maxRecDepth 20000 in
theorem d_293_2443 : decode (js_b 293) 2443 = .ok (.invokestatic 314, 3) := by decide +kernel
set_option maxRecDepth 20000 in
theorem d_293_2446 : decode (js_b 293) 2446 = .ok (.istore 6, 2) := by decide +kernel
set_option maxRecDepth 20000 in
theorem d_293_2448 : decode (js_b 293) 2448 = .ok (.aload_n 2, 1) := by decide +kernel
set_option maxRecDepth 20000 in
theorem d_293_2449 : decode (js_b 293) 2449 = .ok (.aload_n 0, 1) := by decide +kernel
set_option maxRecDepth 20000 in
theorem d_293_2450 : decode (js_b 293) 2450 = .ok (.iload 5, 2) := by decide +kernel
set_option maxRecDepth 20000 in
theorem d_293_2452 : decode (js_b 293) 2452 = .ok (.iconst 1, 1) := by decide +kernel
set_option maxRecDepth 20000 in
theorem d_293_2453 : decode (js_b 293) 2453 = .ok (.iadd, 1) := by decide +kernel
set_option maxRecDepth 20000 in
theorem d_293_2454 : decode (js_b 293) 2454 = .ok (.iaload, 1) := by decide +kernel
set_option maxRecDepth 20000 in
theorem d_293_2455 : decode (js_b 293) 2455 = .ok (.invokevirtual 316, 3) := by decide +kernel
set_option maxRecDepth 20000 in
theorem d_293_2458 : decode (js_b 293) 2458 = .ok (.istore 7, 2) := by decide +kernel
set_option maxRecDepth 20000 in
theorem d_293_2460 : decode (js_b 293) 2460 = .ok (.aload_n 2, 1) := by decide +kernel
set_option maxRecDepth 20000 in
theorem d_293_2461 : decode (js_b 293) 2461 = .ok (.invokevirtual 159, 3) := by decide +kernel
set_option maxRecDepth 20000 in
theorem d_293_2464 : decode (js_b 293) 2464 = .ok (.iload 6, 2) := by decide +kernel
set_option maxRecDepth 20000 in
theorem d_293_2466 : decode (js_b 293) 2466 = .ok (.if_icmp .eq 5, 3) := by decide +kernel
set_option maxRecDepth 20000 in
theorem d_293_2469 : decode (js_b 293) 2469 = .ok (.iconst 0, 1) := by decide +kernel
set_option maxRecDepth 20000 in
theorem d_293_2470 : decode (js_b 293) 2470 = .ok (.ireturn, 1) := by decide +kernel
set_option maxRecDepth 20000 in
theorem d_293_2471 : decode (js_b 293) 2471 = .ok (.iload 6, 2) := by decide +kernel
set_option maxRecDepth 20000 in
theorem d_293_2473 : decode (js_b 293) 2473 = .ok (.ifCond .ne 15, 3) := by decide +kernel
set_option maxRecDepth 20000 in
theorem d_293_2476 : decode (js_b 293) 2476 = .ok (.aload_n 3, 1) := by decide +kernel
set_option maxRecDepth 20000 in
theorem d_293_2477 : decode (js_b 293) 2477 = .ok (.iconst 0, 1) := by decide +kernel
set_option maxRecDepth 20000 in
theorem d_293_2478 : decode (js_b 293) 2478 = .ok (.laload, 1) := by decide +kernel
set_option maxRecDepth 20000 in
theorem d_293_2479 : decode (js_b 293) 2479 = .ok (.iload 7, 2) := by decide +kernel
set_option maxRecDepth 20000 in
theorem d_293_2481 : decode (js_b 293) 2481 = .ok (.i2l, 1) := by decide +kernel
set_option maxRecDepth 20000 in
theorem d_293_2482 : decode (js_b 293) 2482 = .ok (.lcmp, 1) := by decide +kernel
set_option maxRecDepth 20000 in
theorem d_293_2483 : decode (js_b 293) 2483 = .ok (.ifCond .eq 5, 3) := by decide +kernel
set_option maxRecDepth 20000 in
theorem d_293_2486 : decode (js_b 293) 2486 = .ok (.iconst 0, 1) := by decide +kernel
set_option maxRecDepth 20000 in
theorem d_293_2487 : decode (js_b 293) 2487 = .ok (.ireturn, 1) := by decide +kernel
set_option maxRecDepth 20000 in
theorem d_293_2488 : decode (js_b 293) 2488 = .ok (.goto 363, 3) := by decide +kernel
set_option maxRecDepth 20000 in
theorem d_293_2491 : decode (js_b 293) 2491 = .ok (.aload_n 1, 1) := by decide +kernel
set_option maxRecDepth 20000 in
theorem d_293_2492 : decode (js_b 293) 2492 = .ok (.aload_n 0, 1) := by decide +kernel
set_option maxRecDepth 20000 in
theorem d_293_2493 : decode (js_b 293) 2493 = .ok (.iload 5, 2) := by decide +kernel
set_option maxRecDepth 20000 in
theorem d_293_2495 : decode (js_b 293) 2495 = .ok (.iconst 1, 1) := by decide +kernel
set_option maxRecDepth 20000 in
theorem d_293_2496 : decode (js_b 293) 2496 = .ok (.iadd, 1) := by decide +kernel
set_option maxRecDepth 20000 in
theorem d_293_2497 : decode (js_b 293) 2497 = .ok (.iaload, 1) := by decide +kernel
set_option maxRecDepth 20000 in
theorem d_293_2498 : decode (js_b 293) 2498 = .ok (.aload_n 3, 1) := by decide +kernel
set_option maxRecDepth 20000 in
theorem d_293_2499 : decode (js_b 293) 2499 = .ok (.invokestatic 317, 3) := by decide +kernel
set_option maxRecDepth 20000 in
theorem d_293_2502 : decode (js_b 293) 2502 = .ok (.istore 6, 2) := by decide +kernel
set_option maxRecDepth 20000 in
theorem d_293_2504 : decode (js_b 293) 2504 = .ok (.aload_n 2, 1) := by decide +kernel
set_option maxRecDepth 20000 in
theorem d_293_2505 : decode (js_b 293) 2505 = .ok (.aload_n 0, 1) := by decide +kernel
set_option maxRecDepth 20000 in
theorem d_293_2506 : decode (js_b 293) 2506 = .ok (.iload 5, 2) := by decide +kernel
set_option maxRecDepth 20000 in
theorem d_293_2508 : decode (js_b 293) 2508 = .ok (.iconst 1, 1) := by decide +kernel
set_option maxRecDepth 20000 in
theorem d_293_2509 : decode (js_b 293) 2509 = .ok (.iadd, 1) := by decide +kernel
set_option maxRecDepth 20000 in
theorem d_293_2510 : decode (js_b 293) 2510 = .ok (.iaload, 1) := by decide +kernel
set_option maxRecDepth 20000 in
theorem d_293_2511 : decode (js_b 293) 2511 = .ok (.invokevirtual 319, 3) := by decide +kernel
set_option maxRecDepth 20000 in
theorem d_293_2514 : decode (js_b 293) 2514 = .ok (.istore 7, 2) := by decide +kernel
set_option maxRecDepth 20000 in
theorem d_293_2516 : decode (js_b 293) 2516 = .ok (.aload_n 2, 1) := by decide +kernel
set_option maxRecDepth 20000 in
theorem d_293_2517 : decode (js_b 293) 2517 = .ok (.invokevirtual 159, 3) := by decide +kernel
set_option maxRecDepth 20000 in
theorem d_293_2520 : decode (js_b 293) 2520 = .ok (.iload 6, 2) := by decide +kernel
set_option maxRecDepth 20000 in
theorem d_293_2522 : decode (js_b 293) 2522 = .ok (.if_icmp .eq 5, 3) := by decide +kernel
set_option maxRecDepth 20000 in
theorem d_293_2525 : decode (js_b 293) 2525 = .ok (.iconst 0, 1) := by decide +kernel
set_option maxRecDepth 20000 in
theorem d_293_2526 : decode (js_b 293) 2526 = .ok (.ireturn, 1) := by decide +kernel
set_option maxRecDepth 20000 in
theorem d_293_2527 : decode (js_b 293) 2527 = .ok (.iload 6, 2) := by decide +kernel
set_option maxRecDepth 20000 in
theorem d_293_2529 : decode (js_b 293) 2529 = .ok (.ifCond .ne 15, 3) := by decide +kernel
set_option maxRecDepth 20000 in
theorem d_293_2532 : decode (js_b 293) 2532 = .ok (.aload_n 3, 1) := by decide +kernel
set_option maxRecDepth 20000 in
theorem d_293_2533 : decode (js_b 293) 2533 = .ok (.iconst 0, 1) := by decide +kernel
set_option maxRecDepth 20000 in
theorem d_293_2534 : decode (js_b 293) 2534 = .ok (.laload, 1) := by decide +kernel
set_option maxRecDepth 20000 in
theorem d_293_2535 : decode (js_b 293) 2535 = .ok (.iload 7, 2) := by decide +kernel
set_option maxRecDepth 20000 in
theorem d_293_2537 : decode (js_b 293) 2537 = .ok (.i2l, 1) := by decide +kernel
set_option maxRecDepth 20000 in
theorem d_293_2538 : decode (js_b 293) 2538 = .ok (.lcmp, 1) := by decide +kernel
set_option maxRecDepth 20000 in
theorem d_293_2539 : decode (js_b 293) 2539 = .ok (.ifCond .eq 5, 3) := by decide +kernel
set_option maxRecDepth 20000 in
theorem d_293_2542 : decode (js_b 293) 2542 = .ok (.iconst 0, 1) := by decide +kernel
set_option maxRecDepth 20000 in
theorem d_293_2543 : decode (js_b 293) 2543 = .ok (.ireturn, 1) := by decide +kernel
set_option maxRecDepth 20000 in
theorem d_293_2544 : decode (js_b 293) 2544 = .ok (.goto 307, 3) := by decide +kernel
set_option maxRecDepth 20000 in
theorem d_293_2547 : decode (js_b 293) 2547 = .ok (.aload_n 1, 1) := by decide +kernel
set_option maxRecDepth 20000 in
theorem d_293_2548 : decode (js_b 293) 2548 = .ok (.aload_n 0, 1) := by decide +kernel
set_option maxRecDepth 20000 in
theorem d_293_2549 : decode (js_b 293) 2549 = .ok (.iload 5, 2) := by decide +kernel
set_option maxRecDepth 20000 in
theorem d_293_2551 : decode (js_b 293) 2551 = .ok (.iconst 1, 1) := by decide +kernel
set_option maxRecDepth 20000 in
theorem d_293_2552 : decode (js_b 293) 2552 = .ok (.iadd, 1) := by decide +kernel
set_option maxRecDepth 20000 in
theorem d_293_2553 : decode (js_b 293) 2553 = .ok (.iaload, 1) := by decide +kernel
set_option maxRecDepth 20000 in
theorem d_293_2554 : decode (js_b 293) 2554 = .ok (.i2c, 1) := by decide +kernel
set_option maxRecDepth 20000 in
theorem d_293_2555 : decode (js_b 293) 2555 = .ok (.aload_n 3, 1) := by decide +kernel
set_option maxRecDepth 20000 in
theorem d_293_2556 : decode (js_b 293) 2556 = .ok (.invokestatic 320, 3) := by decide +kernel
set_option maxRecDepth 20000 in
theorem d_293_2559 : decode (js_b 293) 2559 = .ok (.istore 6, 2) := by decide +kernel
set_option maxRecDepth 20000 in
theorem d_293_2561 : decode (js_b 293) 2561 = .ok (.aload_n 2, 1) := by decide +kernel
set_option maxRecDepth 20000 in
theorem d_293_2562 : decode (js_b 293) 2562 = .ok (.aload_n 0, 1) := by decide +kernel
set_option maxRecDepth 20000 in
theorem d_293_2563 : decode (js_b 293) 2563 = .ok (.iload 5, 2) := by decide +kernel
set_option maxRecDepth 20000 in
theorem d_293_2565 : decode (js_b 293) 2565 = .ok (.iconst 1, 1) := by decide +kernel
set_option maxRecDepth 20000 in
theorem d_293_2566 : decode (js_b 293) 2566 = .ok (.iadd, 1) := by decide +kernel
set_option maxRecDepth 20000 in
theorem d_293_2567 : decode (js_b 293) 2567 = .ok (.iaload, 1) := by decide +kernel
set_option maxRecDepth 20000 in
theorem d_293_2568 : decode (js_b 293) 2568 = .ok (.i2c, 1) := by decide +kernel
set_option maxRecDepth 20000 in
theorem d_293_2569 : decode (js_b 293) 2569 = .ok (.invokevirtual 322, 3) := by decide +kernel
set_option maxRecDepth 20000 in
theorem d_293_2572 : decode (js_b 293) 2572 = .ok (.istore 7, 2) := by decide +kernel
set_option maxRecDepth 20000 in
theorem d_293_2574 : decode (js_b 293) 2574 = .ok (.aload_n 2, 1) := by decide +kernel
set_option maxRecDepth 20000 in
theorem d_293_2575 : decode (js_b 293) 2575 = .ok (.invokevirtual 159, 3) := by decide +kernel
set_option maxRecDepth 20000 in
theorem d_293_2578 : decode (js_b 293) 2578 = .ok (.iload 6, 2) := by decide +kernel
set_option maxRecDepth 20000 in
theorem d_293_2580 : decode (js_b 293) 2580 = .ok (.if_icmp .eq 5, 3) := by decide +kernel
set_option maxRecDepth 20000 in
theorem d_293_2583 : decode (js_b 293) 2583 = .ok (.iconst 0, 1) := by decide +kernel
set_option maxRecDepth 20000 in
theorem d_293_2584 : decode (js_b 293) 2584 = .ok (.ireturn, 1) := by decide +kernel
set_option maxRecDepth 20000 in
theorem d_293_2585 : decode (js_b 293) 2585 = .ok (.iload 6, 2) := by decide +kernel
set_option maxRecDepth 20000 in
theorem d_293_2587 : decode (js_b 293) 2587 = .ok (.ifCond .ne 15, 3) := by decide +kernel
set_option maxRecDepth 20000 in
theorem d_293_2590 : decode (js_b 293) 2590 = .ok (.aload_n 3, 1) := by decide +kernel
set_option maxRecDepth 20000 in
theorem d_293_2591 : decode (js_b 293) 2591 = .ok (.iconst 0, 1) := by decide +kernel
set_option maxRecDepth 20000 in
theorem d_293_2592 : decode (js_b 293) 2592 = .ok (.laload, 1) := by decide +kernel
set_option maxRecDepth 20000 in
theorem d_293_2593 : decode (js_b 293) 2593 = .ok (.iload 7, 2) := by decide +kernel
set_option maxRecDepth 20000 in
theorem d_293_2595 : decode (js_b 293) 2595 = .ok (.i2l, 1) := by decide +kernel
set_option maxRecDepth 20000 in
theorem d_293_2596 : decode (js_b 293) 2596 = .ok (.lcmp, 1) := by decide +kernel
set_option maxRecDepth 20000 in
theorem d_293_2597 : decode (js_b 293) 2597 = .ok (.ifCond .eq 5, 3) := by decide +kernel
set_option maxRecDepth 20000 in
theorem d_293_2600 : decode (js_b 293) 2600 = .ok (.iconst 0, 1) := by decide +kernel
set_option maxRecDepth 20000 in
theorem d_293_2601 : decode (js_b 293) 2601 = .ok (.ireturn, 1) := by decide +kernel
set_option maxRecDepth 20000 in
theorem d_293_2602 : decode (js_b 293) 2602 = .ok (.goto 249, 3) := by decide +kernel
set_option maxRecDepth 20000 in
theorem d_293_2605 : decode (js_b 293) 2605 = .ok (.aload_n 1, 1) := by decide +kernel
set_option maxRecDepth 20000 in
theorem d_293_2606 : decode (js_b 293) 2606 = .ok (.aload_n 3, 1) := by decide +kernel
set_option maxRecDepth 20000 in
theorem d_293_2607 : decode (js_b 293) 2607 = .ok (.invokestatic 323, 3) := by decide +kernel
set_option maxRecDepth 20000 in
theorem d_293_2610 : decode (js_b 293) 2610 = .ok (.istore 6, 2) := by decide +kernel
set_option maxRecDepth 20000 in
theorem d_293_2612 : decode (js_b 293) 2612 = .ok (.aload_n 2, 1) := by decide +kernel
set_option maxRecDepth 20000 in
theorem d_293_2613 : decode (js_b 293) 2613 = .ok (.invokevirtual 325, 3) := by decide +kernel
set_option maxRecDepth 20000 in
theorem d_293_2616 : decode (js_b 293) 2616 = .ok (.istore 7, 2) := by decide +kernel
set_option maxRecDepth 20000 in
theorem d_293_2618 : decode (js_b 293) 2618 = .ok (.aload_n 2, 1) := by decide +kernel
set_option maxRecDepth 20000 in
theorem d_293_2619 : decode (js_b 293) 2619 = .ok (.invokevirtual 159, 3) := by decide +kernel
set_option maxRecDepth 20000 in
theorem d_293_2622 : decode (js_b 293) 2622 = .ok (.iload 6, 2) := by decide +kernel
set_option maxRecDepth 20000 in
theorem d_293_2624 : decode (js_b 293) 2624 = .ok (.if_icmp .eq 5, 3) := by decide +kernel
set_option maxRecDepth 20000 in
theorem d_293_2627 : decode (js_b 293) 2627 = .ok (.iconst 0, 1) := by decide +kernel
set_option maxRecDepth 20000 in
theorem d_293_2628 : decode (js_b 293) 2628 = .ok (.ireturn, 1) := by decide +kernel
set_option maxRecDepth 20000 in
theorem d_293_2629 : decode (js_b 293) 2629 = .ok (.iload 6, 2) := by decide +kernel
set_option maxRecDepth 20000 in
theorem d_293_2631 : decode (js_b 293) 2631 = .ok (.ifCond .ne 15, 3) := by decide +kernel
set_option maxRecDepth 20000 in
theorem d_293_2634 : decode (js_b 293) 2634 = .ok (.aload_n 3, 1) := by decide +kernel
set_option maxRecDepth 20000 in
theorem d_293_2635 : decode (js_b 293) 2635 = .ok (.iconst 0, 1) := by decide +kernel
set_option maxRecDepth 20000 in
theorem d_293_2636 : decode (js_b 293) 2636 = .ok (.laload, 1) := by decide +kernel
set_option maxRecDepth 20000 in
theorem d_293_2637 : decode (js_b 293) 2637 = .ok (.iload 7, 2) := by decide +kernel
set_option maxRecDepth 20000 in
theorem d_293_2639 : decode (js_b 293) 2639 = .ok (.i2l, 1) := by decide +kernel
set_option maxRecDepth 20000 in
theorem d_293_2640 : decode (js_b 293) 2640 = .ok (.lcmp, 1) := by decide +kernel
set_option maxRecDepth 20000 in
theorem d_293_2641 : decode (js_b 293) 2641 = .ok (.ifCond .eq 5, 3) := by decide +kernel
set_option maxRecDepth 20000 in
theorem d_293_2644 : decode (js_b 293) 2644 = .ok (.iconst 0, 1) := by decide +kernel
set_option maxRecDepth 20000 in
theorem d_293_2645 : decode (js_b 293) 2645 = .ok (.ireturn, 1) := by decide +kernel
set_option maxRecDepth 20000 in
theorem d_293_2646 : decode (js_b 293) 2646 = .ok (.goto 205, 3) := by decide +kernel
set_option maxRecDepth 20000 in
theorem d_293_2649 : decode (js_b 293) 2649 = .ok (.aload_n 1, 1) := by decide +kernel
set_option maxRecDepth 20000 in
theorem d_293_2650 : decode (js_b 293) 2650 = .ok (.aload_n 3, 1) := by decide +kernel
set_option maxRecDepth 20000 in
theorem d_293_2651 : decode (js_b 293) 2651 = .ok (.invokestatic 326, 3) := by decide +kernel
set_option maxRecDepth 20000 in
theorem d_293_2654 : decode (js_b 293) 2654 = .ok (.istore 6, 2) := by decide +kernel
set_option maxRecDepth 20000 in
theorem d_293_2656 : decode (js_b 293) 2656 = .ok (.aload_n 2, 1) := by decide +kernel
set_option maxRecDepth 20000 in
theorem d_293_2657 : decode (js_b 293) 2657 = .ok (.invokevirtual 328, 3) := by decide +kernel
set_option maxRecDepth 20000 in
theorem d_293_2660 : decode (js_b 293) 2660 = .ok (.istore 7, 2) := by decide +kernel
set_option maxRecDepth 20000 in
theorem d_293_2662 : decode (js_b 293) 2662 = .ok (.aload_n 2, 1) := by decide +kernel
set_option maxRecDepth 20000 in
theorem d_293_2663 : decode (js_b 293) 2663 = .ok (.invokevirtual 159, 3) := by decide +kernel
set_option maxRecDepth 20000 in
theorem d_293_2666 : decode (js_b 293) 2666 = .ok (.iload 6, 2) := by decide +kernel
set_option maxRecDepth 20000 in
theorem d_293_2668 : decode (js_b 293) 2668 = .ok (.if_icmp .eq 5, 3) := by decide +kernel
set_option maxRecDepth 20000 in
theorem d_293_2671 : decode (js_b 293) 2671 = .ok (.iconst 0, 1) := by decide +kernel
set_option maxRecDepth 20000 in
theorem d_293_2672 : decode (js_b 293) 2672 = .ok (.ireturn, 1) := by decide +kernel
set_option maxRecDepth 20000 in
theorem d_293_2673 : decode (js_b 293) 2673 = .ok (.iload 6, 2) := by decide +kernel
set_option maxRecDepth 20000 in
theorem d_293_2675 : decode (js_b 293) 2675 = .ok (.ifCond .ne 15, 3) := by decide +kernel
set_option maxRecDepth 20000 in
theorem d_293_2678 : decode (js_b 293) 2678 = .ok (.aload_n 3, 1) := by decide +kernel
set_option maxRecDepth 20000 in
theorem d_293_2679 : decode (js_b 293) 2679 = .ok (.iconst 0, 1) := by decide +kernel
set_option maxRecDepth 20000 in
theorem d_293_2680 : decode (js_b 293) 2680 = .ok (.laload, 1) := by decide +kernel
set_option maxRecDepth 20000 in
theorem d_293_2681 : decode (js_b 293) 2681 = .ok (.iload 7, 2) := by decide +kernel
set_option maxRecDepth 20000 in
theorem d_293_2683 : decode (js_b 293) 2683 = .ok (.i2l, 1) := by decide +kernel
set_option maxRecDepth 20000 in
theorem d_293_2684 : decode (js_b 293) 2684 = .ok (.lcmp, 1) := by decide +kernel
set_option maxRecDepth 20000 in
theorem d_293_2685 : decode (js_b 293) 2685 = .ok (.ifCond .eq 5, 3) := by decide +kernel
set_option maxRecDepth 20000 in
theorem d_293_2688 : decode (js_b 293) 2688 = .ok (.iconst 0, 1) := by decide +kernel
set_option maxRecDepth 20000 in
theorem d_293_2689 : decode (js_b 293) 2689 = .ok (.ireturn, 1) := by decide +kernel
set_option maxRecDepth 20000 in
theorem d_293_2690 : decode (js_b 293) 2690 = .ok (.goto 161, 3) := by decide +kernel
set_option maxRecDepth 20000 in
theorem d_293_2693 : decode (js_b 293) 2693 = .ok (.aload_n 1, 1) := by decide +kernel
set_option maxRecDepth 20000 in
theorem d_293_2694 : decode (js_b 293) 2694 = .ok (.aload_n 3, 1) := by decide +kernel
set_option maxRecDepth 20000 in
theorem d_293_2695 : decode (js_b 293) 2695 = .ok (.invokestatic 329, 3) := by decide +kernel
set_option maxRecDepth 20000 in
theorem d_293_2698 : decode (js_b 293) 2698 = .ok (.istore 6, 2) := by decide +kernel
set_option maxRecDepth 20000 in
theorem d_293_2700 : decode (js_b 293) 2700 = .ok (.aload_n 2, 1) := by decide +kernel
set_option maxRecDepth 20000 in
theorem d_293_2701 : decode (js_b 293) 2701 = .ok (.invokevirtual 331, 3) := by decide +kernel
set_option maxRecDepth 20000 in
theorem d_293_2704 : decode (js_b 293) 2704 = .ok (.istore 7, 2) := by decide +kernel
set_option maxRecDepth 20000 in
theorem d_293_2706 : decode (js_b 293) 2706 = .ok (.aload_n 2, 1) := by decide +kernel
set_option maxRecDepth 20000 in
theorem d_293_2707 : decode (js_b 293) 2707 = .ok (.invokevirtual 159, 3) := by decide +kernel
set_option maxRecDepth 20000 in
theorem d_293_2710 : decode (js_b 293) 2710 = .ok (.iload 6, 2) := by decide +kernel
set_option maxRecDepth 20000 in
theorem d_293_2712 : decode (js_b 293) 2712 = .ok (.if_icmp .eq 5, 3) := by decide +kernel
set_option maxRecDepth 20000 in
theorem d_293_2715 : decode (js_b 293) 2715 = .ok (.iconst 0, 1) := by decide +kernel
set_option maxRecDepth 20000 in
theorem d_293_2716 : decode (js_b 293) 2716 = .ok (.ireturn, 1) := by decide +kernel
set_option maxRecDepth 20000 in
theorem d_293_2717 : decode (js_b 293) 2717 = .ok (.iload 6, 2) := by decide +kernel
set_option maxRecDepth 20000 in
theorem d_293_2719 : decode (js_b 293) 2719 = .ok (.ifCond .ne 15, 3) := by decide +kernel
set_option maxRecDepth 20000 in
theorem d_293_2722 : decode (js_b 293) 2722 = .ok (.aload_n 3, 1) := by decide +kernel
set_option maxRecDepth 20000 in
theorem d_293_2723 : decode (js_b 293) 2723 = .ok (.iconst 0, 1) := by decide +kernel
set_option maxRecDepth 20000 in
theorem d_293_2724 : decode (js_b 293) 2724 = .ok (.laload, 1) := by decide +kernel
set_option maxRecDepth 20000 in
theorem d_293_2725 : decode (js_b 293) 2725 = .ok (.iload 7, 2) := by decide +kernel
set_option maxRecDepth 20000 in
theorem d_293_2727 : decode (js_b 293) 2727 = .ok (.i2l, 1) := by decide +kernel
set_option maxRecDepth 20000 in
theorem d_293_2728 : decode (js_b 293) 2728 = .ok (.lcmp, 1) := by decide +kernel
set_option maxRecDepth 20000 in
theorem d_293_2729 : decode (js_b 293) 2729 = .ok (.ifCond .eq 5, 3) := by decide +kernel
set_option maxRecDepth 20000 in
theorem d_293_2732 : decode (js_b 293) 2732 = .ok (.iconst 0, 1) := by decide +kernel
set_option maxRecDepth 20000 in
theorem d_293_2733 : decode (js_b 293) 2733 = .ok (.ireturn, 1) := by decide +kernel
set_option maxRecDepth 20000 in
theorem d_293_2734 : decode (js_b 293) 2734 = .ok (.goto 117, 3) := by decide +kernel
set_option maxRecDepth 20000 in
theorem d_293_2737 : decode (js_b 293) 2737 = .ok (.aload_n 1, 1) := by decide +kernel
set_option maxRecDepth 20000 in
theorem d_293_2738 : decode (js_b 293) 2738 = .ok (.aload_n 3, 1) := by decide +kernel
set_option maxRecDepth 20000 in
theorem d_293_2739 : decode (js_b 293) 2739 = .ok (.invokestatic 332, 3) := by decide +kernel
set_option maxRecDepth 20000 in
theorem d_293_2742 : decode (js_b 293) 2742 = .ok (.istore 6, 2) := by decide +kernel
set_option maxRecDepth 20000 in
theorem d_293_2744 : decode (js_b 293) 2744 = .ok (.aload_n 2, 1) := by decide +kernel
set_option maxRecDepth 20000 in
theorem d_293_2745 : decode (js_b 293) 2745 = .ok (.invokevirtual 334, 3) := by decide +kernel
set_option maxRecDepth 20000 in
theorem d_293_2748 : decode (js_b 293) 2748 = .ok (.istore 7, 2) := by decide +kernel
set_option maxRecDepth 20000 in
theorem d_293_2750 : decode (js_b 293) 2750 = .ok (.aload_n 2, 1) := by decide +kernel
set_option maxRecDepth 20000 in
theorem d_293_2751 : decode (js_b 293) 2751 = .ok (.invokevirtual 159, 3) := by decide +kernel
set_option maxRecDepth 20000 in
theorem d_293_2754 : decode (js_b 293) 2754 = .ok (.iload 6, 2) := by decide +kernel
set_option maxRecDepth 20000 in
theorem d_293_2756 : decode (js_b 293) 2756 = .ok (.if_icmp .eq 5, 3) := by decide +kernel
set_option maxRecDepth 20000 in
theorem d_293_2759 : decode (js_b 293) 2759 = .ok (.iconst 0, 1) := by decide +kernel
set_option maxRecDepth 20000 in
theorem d_293_2760 : decode (js_b 293) 2760 = .ok (.ireturn, 1) := by decide +kernel
set_option maxRecDepth 20000 in
theorem d_293_2761 : decode (js_b 293) 2761 = .ok (.iload 6, 2) := by decide +kernel
set_option maxRecDepth 20000 in
theorem d_293_2763 : decode (js_b 293) 2763 = .ok (.ifCond .ne 15, 3) := by decide +kernel
set_option maxRecDepth 20000 in
theorem d_293_2766 : decode (js_b 293) 2766 = .ok (.aload_n 3, 1) := by decide +kernel
set_option maxRecDepth 20000 in
theorem d_293_2767 : decode (js_b 293) 2767 = .ok (.iconst 0, 1) := by decide +kernel
set_option maxRecDepth 20000 in
theorem d_293_2768 : decode (js_b 293) 2768 = .ok (.laload, 1) := by decide +kernel
set_option maxRecDepth 20000 in
theorem d_293_2769 : decode (js_b 293) 2769 = .ok (.iload 7, 2) := by decide +kernel
set_option maxRecDepth 20000 in
theorem d_293_2771 : decode (js_b 293) 2771 = .ok (.i2l, 1) := by decide +kernel
set_option maxRecDepth 20000 in
theorem d_293_2772 : decode (js_b 293) 2772 = .ok (.lcmp, 1) := by decide +kernel
set_option maxRecDepth 20000 in
theorem d_293_2773 : decode (js_b 293) 2773 = .ok (.ifCond .eq 5, 3) := by decide +kernel
set_option maxRecDepth 20000 in
theorem d_293_2776 : decode (js_b 293) 2776 = .ok (.iconst 0, 1) := by decide +kernel
set_option maxRecDepth 20000 in
theorem d_293_2777 : decode (js_b 293) 2777 = .ok (.ireturn, 1) := by decide +kernel
set_option maxRecDepth 20000 in
theorem d_293_2778 : decode (js_b 293) 2778 = .ok (.goto 73, 3) := by decide +kernel
set_option maxRecDepth 20000 in
theorem d_293_2781 : decode (js_b 293) 2781 = .ok (.aload_n 1, 1) := by decide +kernel
set_option maxRecDepth 20000 in
theorem d_293_2782 : decode (js_b 293) 2782 = .ok (.invokevirtual 335, 3) := by decide +kernel
set_option maxRecDepth 20000 in
theorem d_293_2785 : decode (js_b 293) 2785 = .ok (.aload_n 2, 1) := by decide +kernel
set_option maxRecDepth 20000 in
theorem d_293_2786 : decode (js_b 293) 2786 = .ok (.invokevirtual 338, 3) := by decide +kernel
set_option maxRecDepth 20000 in
theorem d_293_2789 : decode (js_b 293) 2789 = .ok (.if_icmp .eq 62, 3) := by decide +kernel
set_option maxRecDepth 20000 in
theorem d_293_2792 : decode (js_b 293) 2792 = .ok (.iconst 0, 1) := by decide +kernel
set_option maxRecDepth 20000 in
theorem d_293_2793 : decode (js_b 293) 2793 = .ok (.ireturn, 1) := by decide +kernel
set_option maxRecDepth 20000 in
theorem d_293_2794 : decode (js_b 293) 2794 = .ok (.aload_n 1, 1) := by decide +kernel
set_option maxRecDepth 20000 in
theorem d_293_2795 : decode (js_b 293) 2795 = .ok (.invokevirtual 339, 3) := by decide +kernel
set_option maxRecDepth 20000 in
theorem d_293_2798 : decode (js_b 293) 2798 = .ok (.aload_n 2, 1) := by decide +kernel
set_option maxRecDepth 20000 in
theorem d_293_2799 : decode (js_b 293) 2799 = .ok (.invokevirtual 342, 3) := by decide +kernel
set_option maxRecDepth 20000 in
theorem d_293_2802 : decode (js_b 293) 2802 = .ok (.if_icmp .eq 49, 3) := by decide +kernel
set_option maxRecDepth 20000 in
theorem d_293_2805 : decode (js_b 293) 2805 = .ok (.iconst 0, 1) := by decide +kernel
set_option maxRecDepth 20000 in
theorem d_293_2806 : decode (js_b 293) 2806 = .ok (.ireturn, 1) := by decide +kernel
set_option maxRecDepth 20000 in
theorem d_293_2807 : decode (js_b 293) 2807 = .ok (.aload_n 1, 1) := by decide +kernel
set_option maxRecDepth 20000 in
theorem d_293_2808 : decode (js_b 293) 2808 = .ok (.aload_n 3, 1) := by decide +kernel
set_option maxRecDepth 20000 in
theorem d_293_2809 : decode (js_b 293) 2809 = .ok (.invokestatic 343, 3) := by decide +kernel
set_option maxRecDepth 20000 in
theorem d_293_2812 : decode (js_b 293) 2812 = .ok (.istore 6, 2) := by decide +kernel
set_option maxRecDepth 20000 in
theorem d_293_2814 : decode (js_b 293) 2814 = .ok (.aload_n 2, 1) := by decide +kernel
set_option maxRecDepth 20000 in
theorem d_293_2815 : decode (js_b 293) 2815 = .ok (.invokevirtual 345, 3) := by decide +kernel
set_option maxRecDepth 20000 in
theorem d_293_2818 : decode (js_b 293) 2818 = .ok (.istore 7, 2) := by decide +kernel
set_option maxRecDepth 20000 in
theorem d_293_2820 : decode (js_b 293) 2820 = .ok (.aload_n 2, 1) := by decide +kernel
set_option maxRecDepth 20000 in
theorem d_293_2821 : decode (js_b 293) 2821 = .ok (.invokevirtual 159, 3) := by decide +kernel
set_option maxRecDepth 20000 in
theorem d_293_2824 : decode (js_b 293) 2824 = .ok (.iload 6, 2) := by decide +kernel
set_option maxRecDepth 20000 in
theorem d_293_2826 : decode (js_b 293) 2826 = .ok (.if_icmp .eq 5, 3) := by decide +kernel
set_option maxRecDepth 20000 in
theorem d_293_2829 : decode (js_b 293) 2829 = .ok (.iconst 0, 1) := by decide +kernel
set_option maxRecDepth 20000 in
theorem d_293_2830 : decode (js_b 293) 2830 = .ok (.ireturn, 1) := by decide +kernel
set_option maxRecDepth 20000 in
theorem d_293_2831 : decode (js_b 293) 2831 = .ok (.iload 6, 2) := by decide +kernel
set_option maxRecDepth 20000 in
theorem d_293_2833 : decode (js_b 293) 2833 = .ok (.ifCond .ne 15, 3) := by decide +kernel
set_option maxRecDepth 20000 in
theorem d_293_2836 : decode (js_b 293) 2836 = .ok (.aload_n 3, 1) := by decide +kernel
set_option maxRecDepth 20000 in
theorem d_293_2837 : decode (js_b 293) 2837 = .ok (.iconst 0, 1) := by decide +kernel
set_option maxRecDepth 20000 in
theorem d_293_2838 : decode (js_b 293) 2838 = .ok (.laload, 1) := by decide +kernel
set_option maxRecDepth 20000 in
theorem d_293_2839 : decode (js_b 293) 2839 = .ok (.iload 7, 2) := by decide +kernel
set_option maxRecDepth 20000 in
theorem d_293_2841 : decode (js_b 293) 2841 = .ok (.i2l, 1) := by decide +kernel
set_option maxRecDepth 20000 in
theorem d_293_2842 : decode (js_b 293) 2842 = .ok (.lcmp, 1) := by decide +kernel
set_option maxRecDepth 20000 in
theorem d_293_2843 : decode (js_b 293) 2843 = .ok (.ifCond .eq 5, 3) := by decide +kernel
set_option maxRecDepth 20000 in
theorem d_293_2846 : decode (js_b 293) 2846 = .ok (.iconst 0, 1) := by decide +kernel
set_option maxRecDepth 20000 in
theorem d_293_2847 : decode (js_b 293) 2847 = .ok (.ireturn, 1) := by decide +kernel
set_option maxRecDepth 20000 in
theorem d_293_2848 : decode (js_b 293) 2848 = .ok (.goto 3, 3) := by decide +kernel
set_option maxRecDepth 20000 in
theorem d_293_2851 : decode (js_b 293) 2851 = .ok (.iinc 5 6, 3) := by decide +kernel
set_option maxRecDepth 20000 in
theorem d_293_2854 : decode (js_b 293) 2854 = .ok (.goto (-2826), 3) := by decide +kernel
set_option maxRecDepth 20000 in
theorem d_293_2857 : decode (js_b 293) 2857 = .ok (.iconst 1, 1) := by decide +kernel
set_option maxRecDepth 20000 in
theorem d_293_2858 : decode (js_b 293) 2858 = .ok (.ireturn, 1) := by decide +kernel
theorem ki_293_15 : js_OkG 293 15 (o_as 2 16) := js_St.okG (st_astoren rfl (Nat.le_of_ble_eq_true rfl) d_293_15) (fun _ _ _ _ _ => rfl)
theorem ki_293_12 : js_OkG 293 12 (o_cV 133 1 9 15) := og_cV (site_I kk_293_133 (by decide) rfl rfl kw_1229 kw_1230 d_293_12) rfl rfl
theorem ki_293_11 : js_OkG 293 11 (o_dup 12) := js_St.okG (st_dup d_293_11) (fun _ _ _ _ _ => rfl)
theorem ki_293_8 : js_OkG 293 8 (o_new 8 [.null, .null, .null, .int 0, .null, .int 0, .int 0, .null, .int 0, .null, .int 0, .int 0, .int 0, .int 0, .int 0, .null, .int 0] 11) := js_St.okG (st_new js_c8 rfl (by decide +kernel) (fun _ => rfl) kw_1227 kw_1228 kw_78 d_293_8) (fun _ _ _ _ _ => rfl)
theorem ki_293_7 : js_OkG 293 7 (o_as 1 8) := js_St.okG (st_astoren rfl (Nat.le_of_ble_eq_true rfl) d_293_7) (fun _ _ _ _ _ => rfl)
theorem ki_293_4 : js_OkG 293 4 (o_cV 59 1 8 7) := og_cV (site_I kk_293_59 (by decide) rfl rfl kw_102 kw_103 d_293_4) rfl rfl
theorem ki_293_3 : js_OkG 293 3 (o_dup 4) := js_St.okG (st_dup d_293_3) (fun _ _ _ _ _ => rfl)
theorem ki_293_0 : js_OkG 293 0 (o_new 7 [.null, .null, .int 0, .null, .null, .null, .null, .null, .int 0, .int 0, .int 0] 3) := js_St.okG (st_new js_c7 rfl (by decide +kernel) (fun _ => rfl) kw_100 kw_101 kw_68 d_293_0) (fun _ _ _ _ _ => rfl)
theorem ki_293_31 : js_OkG 293 31 (o_len 32) := js_St.okG (st_len d_293_31) (fun _ _ _ _ _ => rfl)
theorem ki_293_30 : js_OkG 293 30 (o_al 0 31) := js_St.okG (st_aloadn rfl d_293_30) (fun _ _ _ _ _ => rfl)
theorem ki_293_28 : js_OkG 293 28 (o_il 5 30) := js_St.okG (st_iload d_293_28) (fun _ _ _ _ _ => rfl)
theorem ki_293_26 : js_OkG 293 26 (o_is 5 28) := js_St.okG (st_istore (Nat.le_of_ble_eq_true rfl) d_293_26) (fun _ _ _ _ _ => rfl)
theorem ki_293_25 : js_OkG 293 25 (o_ic 0 26) := js_St.okG (st_iconst rfl d_293_25) (fun _ _ _ _ _ => rfl)
theorem ki_293_23 : js_OkG 293 23 (o_as 4 25) := js_St.okG (st_astore (Nat.le_of_ble_eq_true rfl) d_293_23) (fun _ _ _ _ _ => rfl)
theorem ki_293_21 : js_OkG 293 21 (o_na 103 (.double 0) 23) := js_St.okG (st_na (by decide) rfl (fun _ h => by cases h) (by decide) (fun _ => rfl) kw_1735 d_293_21) (fun _ _ _ _ _ => rfl)
theorem ki_293_20 : js_OkG 293 20 (o_ic 1 21) := js_St.okG (st_iconst rfl d_293_20) (fun _ _ _ _ _ => rfl)
theorem ki_293_19 : js_OkG 293 19 (o_as 3 20) := js_St.okG (st_astoren rfl (Nat.le_of_ble_eq_true rfl) d_293_19) (fun _ _ _ _ _ => rfl)
theorem ki_293_17 : js_OkG 293 17 (o_na 102 (.long 0) 19) := js_St.okG (st_na (by decide) rfl (fun _ h => by cases h) (by decide) (fun _ => rfl) kw_1734 d_293_17) (fun _ _ _ _ _ => rfl)
theorem ki_293_16 : js_OkG 293 16 (o_ic 1 17) := js_St.okG (st_iconst rfl d_293_16) (fun _ _ _ _ _ => rfl)
theorem ki_293_45 : js_OkG 293 45 (o_sw 2851 [(0, 276), (1, 382), (2, 438), (3, 451), (4, 464), (5, 520), (6, 545), (7, 601), (8, 657), (9, 725), (10, 788), (11, 844), (12, 857), (13, 937), (14, 993), (15, 1061), (16, 1129), (17, 1197), (18, 1210), (19, 1285), (20, 1353), (21, 1367), (22, 1424), (23, 1438), (24, 1452), (25, 1465), (26, 1478), (27, 1491), (28, 1566), (29, 1622), (30, 1690), (31, 1782), (32, 1862), (33, 1930), (34, 2010), (35, 2023), (36, 2036), (37, 2092), (38, 2147), (39, 2191), (40, 2257), (41, 2301), (42, 2366), (43, 2379), (44, 2435), (45, 2491), (46, 2547), (47, 2605), (48, 2649), (49, 2693), (50, 2737), (51, 2781), (52, 2794), (53, 2807)]) := js_St.okG (st_tsw (by decide +kernel) (by decide +kernel) (by decide +kernel) d_293_45) (fun _ _ _ _ _ => rfl)
theorem ki_293_44 : js_OkG 293 44 (o_b2 (fun x y => x &&& y) 45) := js_St.okG (st_iand d_293_44) (fun _ _ _ _ _ => rfl)
theorem ki_293_42 : js_OkG 293 42 (o_ic 63 44) := js_St.okG (st_bipush rfl d_293_42) (fun _ _ _ _ _ => rfl)
theorem ki_293_41 : js_OkG 293 41 (o_lI 100 42) := js_St.okG (st_lI d_293_41) (fun _ _ _ _ _ => rfl)
theorem ki_293_39 : js_OkG 293 39 (o_il 5 41) := js_St.okG (st_iload d_293_39) (fun _ _ _ _ _ => rfl)
theorem ki_293_38 : js_OkG 293 38 (o_al 0 39) := js_St.okG (st_aloadn rfl d_293_38) (fun _ _ _ _ _ => rfl)
theorem ki_293_35 : js_OkG 293 35 (o_cgt 2857 38) := js_St.okG (st_icgt (by decide) d_293_35) (fun _ _ _ _ _ => rfl)
theorem ki_293_34 : js_OkG 293 34 (o_b2 (fun x y => x - y) 35) := js_St.okG (st_isub d_293_34) (fun _ _ _ _ _ => rfl)
theorem ki_293_32 : js_OkG 293 32 (o_ic 6 34) := js_St.okG (st_bipush rfl d_293_32) (fun _ _ _ _ _ => rfl)
theorem ki_293_287 : js_OkG 293 287 (o_ic 2 288) := js_St.okG (st_iconst rfl d_293_287) (fun _ _ _ _ _ => rfl)
theorem ki_293_285 : js_OkG 293 285 (o_il 5 287) := js_St.okG (st_iload d_293_285) (fun _ _ _ _ _ => rfl)
theorem ki_293_284 : js_OkG 293 284 (o_al 0 285) := js_St.okG (st_aloadn rfl d_293_284) (fun _ _ _ _ _ => rfl)
theorem ki_293_283 : js_OkG 293 283 (o_u (fun x => (x.toUInt32 % 65536).toInt32) 284) := js_St.okG (st_i2c d_293_283) (fun _ _ _ _ _ => rfl)
theorem ki_293_282 : js_OkG 293 282 (o_lI 100 283) := js_St.okG (st_lI d_293_282) (fun _ _ _ _ _ => rfl)
theorem ki_293_281 : js_OkG 293 281 (o_b2 (fun x y => x + y) 282) := js_St.okG (st_iadd d_293_281) (fun _ _ _ _ _ => rfl)
theorem ki_293_280 : js_OkG 293 280 (o_ic 1 281) := js_St.okG (st_iconst rfl d_293_280) (fun _ _ _ _ _ => rfl)
theorem ki_293_278 : js_OkG 293 278 (o_il 5 280) := js_St.okG (st_iload d_293_278) (fun _ _ _ _ _ => rfl)
theorem ki_293_277 : js_OkG 293 277 (o_al 0 278) := js_St.okG (st_aloadn rfl d_293_277) (fun _ _ _ _ _ => rfl)
theorem ki_293_276 : js_OkG 293 276 (o_al 1 277) := js_St.okG (st_aloadn rfl d_293_276) (fun _ _ _ _ _ => rfl)
theorem ki_293_303 : js_OkG 293 303 (o_il 5 305) := js_St.okG (st_iload d_293_303) (fun _ _ _ _ _ => rfl)
theorem ki_293_302 : js_OkG 293 302 (o_al 0 303) := js_St.okG (st_aloadn rfl d_293_302) (fun _ _ _ _ _ => rfl)
theorem ki_293_301 : js_OkG 293 301 (o_lI 100 302) := js_St.okG (st_lI d_293_301) (fun _ _ _ _ _ => rfl)
theorem ki_293_300 : js_OkG 293 300 (o_b2 (fun x y => x + y) 301) := js_St.okG (st_iadd d_293_300) (fun _ _ _ _ _ => rfl)
theorem ki_293_299 : js_OkG 293 299 (o_ic 4 300) := js_St.okG (st_iconst rfl d_293_299) (fun _ _ _ _ _ => rfl)
theorem ki_293_297 : js_OkG 293 297 (o_il 5 299) := js_St.okG (st_iload d_293_297) (fun _ _ _ _ _ => rfl)
theorem ki_293_296 : js_OkG 293 296 (o_al 0 297) := js_St.okG (st_aloadn rfl d_293_296) (fun _ _ _ _ _ => rfl)
theorem ki_293_295 : js_OkG 293 295 (o_lI 100 296) := js_St.okG (st_lI d_293_295) (fun _ _ _ _ _ => rfl)
theorem ki_293_294 : js_OkG 293 294 (o_b2 (fun x y => x + y) 295) := js_St.okG (st_iadd d_293_294) (fun _ _ _ _ _ => rfl)
theorem ki_293_293 : js_OkG 293 293 (o_ic 3 294) := js_St.okG (st_iconst rfl d_293_293) (fun _ _ _ _ _ => rfl)
theorem ki_293_291 : js_OkG 293 291 (o_il 5 293) := js_St.okG (st_iload d_293_291) (fun _ _ _ _ _ => rfl)
theorem ki_293_290 : js_OkG 293 290 (o_al 0 291) := js_St.okG (st_aloadn rfl d_293_290) (fun _ _ _ _ _ => rfl)
theorem ki_293_289 : js_OkG 293 289 (o_lI 100 290) := js_St.okG (st_lI d_293_289) (fun _ _ _ _ _ => rfl)
theorem ki_293_288 : js_OkG 293 288 (o_b2 (fun x y => x + y) 289) := js_St.okG (st_iadd d_293_288) (fun _ _ _ _ _ => rfl)
theorem ki_293_319 : js_OkG 293 319 (o_b2 (fun x y => x + y) 320) := js_St.okG (st_iadd d_293_319) (fun _ _ _ _ _ => rfl)
theorem ki_293_318 : js_OkG 293 318 (o_ic 1 319) := js_St.okG (st_iconst rfl d_293_318) (fun _ _ _ _ _ => rfl)
theorem ki_293_316 : js_OkG 293 316 (o_il 5 318) := js_St.okG (st_iload d_293_316) (fun _ _ _ _ _ => rfl)
theorem ki_293_315 : js_OkG 293 315 (o_al 0 316) := js_St.okG (st_aloadn rfl d_293_315) (fun _ _ _ _ _ => rfl)
theorem ki_293_314 : js_OkG 293 314 (o_al 2 315) := js_St.okG (st_aloadn rfl d_293_314) (fun _ _ _ _ _ => rfl)
theorem ki_293_312 : js_OkG 293 312 (o_is 6 314) := js_St.okG (st_istore (Nat.le_of_ble_eq_true rfl) d_293_312) (fun _ _ _ _ _ => rfl)
theorem ki_293_309 : js_OkG 293 309 (o_cI 255 7 0 312) := og_sI kB_255 rfl kw_670 kw_671 d_293_309
theorem ki_293_308 : js_OkG 293 308 (o_al 3 309) := js_St.okG (st_aloadn rfl d_293_308) (fun _ _ _ _ _ => rfl)
theorem ki_293_307 : js_OkG 293 307 (o_lI 100 308) := js_St.okG (st_lI d_293_307) (fun _ _ _ _ _ => rfl)
theorem ki_293_306 : js_OkG 293 306 (o_b2 (fun x y => x + y) 307) := js_St.okG (st_iadd d_293_306) (fun _ _ _ _ _ => rfl)
theorem ki_293_305 : js_OkG 293 305 (o_ic 5 306) := js_St.okG (st_iconst rfl d_293_305) (fun _ _ _ _ _ => rfl)
theorem ki_293_335 : js_OkG 293 335 (o_il 5 337) := js_St.okG (st_iload d_293_335) (fun _ _ _ _ _ => rfl)
theorem ki_293_334 : js_OkG 293 334 (o_al 0 335) := js_St.okG (st_aloadn rfl d_293_334) (fun _ _ _ _ _ => rfl)
theorem ki_293_333 : js_OkG 293 333 (o_lI 100 334) := js_St.okG (st_lI d_293_333) (fun _ _ _ _ _ => rfl)
theorem ki_293_332 : js_OkG 293 332 (o_b2 (fun x y => x + y) 333) := js_St.okG (st_iadd d_293_332) (fun _ _ _ _ _ => rfl)
theorem ki_293_331 : js_OkG 293 331 (o_ic 3 332) := js_St.okG (st_iconst rfl d_293_331) (fun _ _ _ _ _ => rfl)
theorem ki_293_329 : js_OkG 293 329 (o_il 5 331) := js_St.okG (st_iload d_293_329) (fun _ _ _ _ _ => rfl)
theorem ki_293_328 : js_OkG 293 328 (o_al 0 329) := js_St.okG (st_aloadn rfl d_293_328) (fun _ _ _ _ _ => rfl)
theorem ki_293_327 : js_OkG 293 327 (o_lI 100 328) := js_St.okG (st_lI d_293_327) (fun _ _ _ _ _ => rfl)
theorem ki_293_326 : js_OkG 293 326 (o_b2 (fun x y => x + y) 327) := js_St.okG (st_iadd d_293_326) (fun _ _ _ _ _ => rfl)
theorem ki_293_325 : js_OkG 293 325 (o_ic 2 326) := js_St.okG (st_iconst rfl d_293_325) (fun _ _ _ _ _ => rfl)
theorem ki_293_323 : js_OkG 293 323 (o_il 5 325) := js_St.okG (st_iload d_293_323) (fun _ _ _ _ _ => rfl)
theorem ki_293_322 : js_OkG 293 322 (o_al 0 323) := js_St.okG (st_aloadn rfl d_293_322) (fun _ _ _ _ _ => rfl)
theorem ki_293_321 : js_OkG 293 321 (o_u (fun x => (x.toUInt32 % 65536).toInt32) 322) := js_St.okG (st_i2c d_293_321) (fun _ _ _ _ _ => rfl)
theorem ki_293_320 : js_OkG 293 320 (o_lI 100 321) := js_St.okG (st_lI d_293_320) (fun _ _ _ _ _ => rfl)
theorem ki_293_351 : js_OkG 293 351 (o_al 2 352) := js_St.okG (st_aloadn rfl d_293_351) (fun _ _ _ _ _ => rfl)
theorem ki_293_349 : js_OkG 293 349 (o_is 7 351) := js_St.okG (st_istore (Nat.le_of_ble_eq_true rfl) d_293_349) (fun _ _ _ _ _ => rfl)
theorem ki_293_346 : js_OkG 293 346 (o_cI 161 6 9 349) := og_cI (site_V kk_293_161 (by decide) kw_1289 kw_1290 kw_1291 (fun t ht => by cases ht; exact Or.inl ⟨_, rfl, rfl⟩) d_293_346) rfl rfl
theorem ki_293_345 : js_OkG 293 345 (o_lI 100 346) := js_St.okG (st_lI d_293_345) (fun _ _ _ _ _ => rfl)
theorem ki_293_344 : js_OkG 293 344 (o_b2 (fun x y => x + y) 345) := js_St.okG (st_iadd d_293_344) (fun _ _ _ _ _ => rfl)
theorem ki_293_343 : js_OkG 293 343 (o_ic 5 344) := js_St.okG (st_iconst rfl d_293_343) (fun _ _ _ _ _ => rfl)
theorem ki_293_341 : js_OkG 293 341 (o_il 5 343) := js_St.okG (st_iload d_293_341) (fun _ _ _ _ _ => rfl)
theorem ki_293_340 : js_OkG 293 340 (o_al 0 341) := js_St.okG (st_aloadn rfl d_293_340) (fun _ _ _ _ _ => rfl)
theorem ki_293_339 : js_OkG 293 339 (o_lI 100 340) := js_St.okG (st_lI d_293_339) (fun _ _ _ _ _ => rfl)
theorem ki_293_338 : js_OkG 293 338 (o_b2 (fun x y => x + y) 339) := js_St.okG (st_iadd d_293_338) (fun _ _ _ _ _ => rfl)
theorem ki_293_337 : js_OkG 293 337 (o_ic 4 338) := js_St.okG (st_iconst rfl d_293_337) (fun _ _ _ _ _ => rfl)
theorem ki_293_367 : js_OkG 293 367 (o_al 3 368) := js_St.okG (st_aloadn rfl d_293_367) (fun _ _ _ _ _ => rfl)
theorem ki_293_364 : js_OkG 293 364 (o_ne 379 367) := js_St.okG (st_ifne (by decide) d_293_364) (fun _ _ _ _ _ => rfl)
theorem ki_293_362 : js_OkG 293 362 (o_il 6 364) := js_St.okG (st_iload d_293_362) (fun _ _ _ _ _ => rfl)
theorem ki_293_361 : js_OkG 293 361 (o_rZ) := og_rZ d_293_361
theorem ki_293_360 : js_OkG 293 360 (o_ic 0 361) := js_St.okG (st_iconst rfl d_293_360) (fun _ _ _ _ _ => rfl)
theorem ki_293_357 : js_OkG 293 357 (o_ceq 362 360) := js_St.okG (st_iceq (by decide) d_293_357) (fun _ _ _ _ _ => rfl)
theorem ki_293_355 : js_OkG 293 355 (o_il 6 357) := js_St.okG (st_iload d_293_355) (fun _ _ _ _ _ => rfl)
theorem ki_293_352 : js_OkG 293 352 (o_cI 134 1 9 355) := og_cI (site_V kk_293_134 (by decide) kw_1285 kw_1286 kw_1287 (fun t ht => by cases ht; exact Or.inl ⟨_, rfl, rfl⟩) d_293_352) rfl rfl
theorem ki_293_383 : js_OkG 293 383 (o_al 0 384) := js_St.okG (st_aloadn rfl d_293_383) (fun _ _ _ _ _ => rfl)
theorem ki_293_382 : js_OkG 293 382 (o_al 1 383) := js_St.okG (st_aloadn rfl d_293_382) (fun _ _ _ _ _ => rfl)
theorem ki_293_379 : js_OkG 293 379 (o_go 2851) := js_St.okG (st_goto (by decide) d_293_379) (fun _ _ _ _ _ => rfl)
theorem ki_293_378 : js_OkG 293 378 (o_rZ) := og_rZ d_293_378
theorem ki_293_377 : js_OkG 293 377 (o_ic 0 378) := js_St.okG (st_iconst rfl d_293_377) (fun _ _ _ _ _ => rfl)
theorem ki_293_374 : js_OkG 293 374 (o_eq 379 377) := js_St.okG (st_ifeq (by decide) d_293_374) (fun _ _ _ _ _ => rfl)
theorem ki_293_373 : js_OkG 293 373 (o_lcmp 374) := js_St.okG (st_lcmp d_293_373) (fun _ _ _ _ _ => rfl)
theorem ki_293_372 : js_OkG 293 372 (o_i2l 373) := js_St.okG (st_i2l d_293_372) (fun _ _ _ _ _ => rfl)
theorem ki_293_370 : js_OkG 293 370 (o_il 7 372) := js_St.okG (st_iload d_293_370) (fun _ _ _ _ _ => rfl)
theorem ki_293_369 : js_OkG 293 369 (o_lL 102 370) := js_St.okG (st_lL d_293_369) (fun _ _ _ _ _ => rfl)
theorem ki_293_368 : js_OkG 293 368 (o_ic 0 369) := js_St.okG (st_iconst rfl d_293_368) (fun _ _ _ _ _ => rfl)
theorem ki_293_399 : js_OkG 293 399 (o_ic 1 400) := js_St.okG (st_iconst rfl d_293_399) (fun _ _ _ _ _ => rfl)
theorem ki_293_397 : js_OkG 293 397 (o_il 5 399) := js_St.okG (st_iload d_293_397) (fun _ _ _ _ _ => rfl)
theorem ki_293_396 : js_OkG 293 396 (o_al 0 397) := js_St.okG (st_aloadn rfl d_293_396) (fun _ _ _ _ _ => rfl)
theorem ki_293_395 : js_OkG 293 395 (o_al 2 396) := js_St.okG (st_aloadn rfl d_293_395) (fun _ _ _ _ _ => rfl)
theorem ki_293_393 : js_OkG 293 393 (o_is 6 395) := js_St.okG (st_istore (Nat.le_of_ble_eq_true rfl) d_293_393) (fun _ _ _ _ _ => rfl)
theorem ki_293_390 : js_OkG 293 390 (o_cI 256 3 0 393) := og_sI kB_256 rfl kw_689 kw_690 d_293_390
theorem ki_293_389 : js_OkG 293 389 (o_al 3 390) := js_St.okG (st_aloadn rfl d_293_389) (fun _ _ _ _ _ => rfl)
theorem ki_293_388 : js_OkG 293 388 (o_lI 100 389) := js_St.okG (st_lI d_293_388) (fun _ _ _ _ _ => rfl)
theorem ki_293_387 : js_OkG 293 387 (o_b2 (fun x y => x + y) 388) := js_St.okG (st_iadd d_293_387) (fun _ _ _ _ _ => rfl)
theorem ki_293_386 : js_OkG 293 386 (o_ic 1 387) := js_St.okG (st_iconst rfl d_293_386) (fun _ _ _ _ _ => rfl)
theorem ki_293_384 : js_OkG 293 384 (o_il 5 386) := js_St.okG (st_iload d_293_384) (fun _ _ _ _ _ => rfl)
theorem ki_293_413 : js_OkG 293 413 (o_ceq 418 416) := js_St.okG (st_iceq (by decide) d_293_413) (fun _ _ _ _ _ => rfl)
theorem ki_293_411 : js_OkG 293 411 (o_il 6 413) := js_St.okG (st_iload d_293_411) (fun _ _ _ _ _ => rfl)
theorem ki_293_408 : js_OkG 293 408 (o_cI 134 1 9 411) := og_cI (site_V kk_293_134 (by decide) kw_1285 kw_1286 kw_1287 (fun t ht => by cases ht; exact Or.inl ⟨_, rfl, rfl⟩) d_293_408) rfl rfl
theorem ki_293_407 : js_OkG 293 407 (o_al 2 408) := js_St.okG (st_aloadn rfl d_293_407) (fun _ _ _ _ _ => rfl)
theorem ki_293_405 : js_OkG 293 405 (o_is 7 407) := js_St.okG (st_istore (Nat.le_of_ble_eq_true rfl) d_293_405) (fun _ _ _ _ _ => rfl)
theorem ki_293_402 : js_OkG 293 402 (o_cI 163 2 9 405) := og_cI (site_V kk_293_163 (by decide) kw_1340 kw_1341 kw_1342 (fun t ht => by cases ht; exact Or.inl ⟨_, rfl, rfl⟩) d_293_402) rfl rfl
theorem ki_293_401 : js_OkG 293 401 (o_lI 100 402) := js_St.okG (st_lI d_293_401) (fun _ _ _ _ _ => rfl)
theorem ki_293_400 : js_OkG 293 400 (o_b2 (fun x y => x + y) 401) := js_St.okG (st_iadd d_293_400) (fun _ _ _ _ _ => rfl)
theorem ki_293_430 : js_OkG 293 430 (o_eq 435 433) := js_St.okG (st_ifeq (by decide) d_293_430) (fun _ _ _ _ _ => rfl)
theorem ki_293_429 : js_OkG 293 429 (o_lcmp 430) := js_St.okG (st_lcmp d_293_429) (fun _ _ _ _ _ => rfl)
theorem ki_293_428 : js_OkG 293 428 (o_i2l 429) := js_St.okG (st_i2l d_293_428) (fun _ _ _ _ _ => rfl)
theorem ki_293_426 : js_OkG 293 426 (o_il 7 428) := js_St.okG (st_iload d_293_426) (fun _ _ _ _ _ => rfl)
theorem ki_293_425 : js_OkG 293 425 (o_lL 102 426) := js_St.okG (st_lL d_293_425) (fun _ _ _ _ _ => rfl)
theorem ki_293_424 : js_OkG 293 424 (o_ic 0 425) := js_St.okG (st_iconst rfl d_293_424) (fun _ _ _ _ _ => rfl)
theorem ki_293_423 : js_OkG 293 423 (o_al 3 424) := js_St.okG (st_aloadn rfl d_293_423) (fun _ _ _ _ _ => rfl)
theorem ki_293_420 : js_OkG 293 420 (o_ne 435 423) := js_St.okG (st_ifne (by decide) d_293_420) (fun _ _ _ _ _ => rfl)
theorem ki_293_418 : js_OkG 293 418 (o_il 6 420) := js_St.okG (st_iload d_293_418) (fun _ _ _ _ _ => rfl)
theorem ki_293_417 : js_OkG 293 417 (o_rZ) := og_rZ d_293_417
theorem ki_293_416 : js_OkG 293 416 (o_ic 0 417) := js_St.okG (st_iconst rfl d_293_416) (fun _ _ _ _ _ => rfl)
theorem ki_293_446 : js_OkG 293 446 (o_ceq 2851 449) := js_St.okG (st_iceq (by decide) d_293_446) (fun _ _ _ _ _ => rfl)
theorem ki_293_443 : js_OkG 293 443 (o_cI 164 1 9 446) := og_cI (site_V kk_293_164 (by decide) kw_1352 kw_1353 kw_1354 (fun t ht => by cases ht; exact Or.inl ⟨_, rfl, rfl⟩) d_293_443) rfl rfl
theorem ki_293_442 : js_OkG 293 442 (o_al 2 443) := js_St.okG (st_aloadn rfl d_293_442) (fun _ _ _ _ _ => rfl)
theorem ki_293_439 : js_OkG 293 439 (o_cI 62 1 8 442) := og_cI (site_V kk_293_62 (by decide) kw_304 kw_305 kw_306 (fun t ht => by cases ht; exact Or.inl ⟨_, rfl, rfl⟩) d_293_439) rfl rfl
theorem ki_293_438 : js_OkG 293 438 (o_al 1 439) := js_St.okG (st_aloadn rfl d_293_438) (fun _ _ _ _ _ => rfl)
theorem ki_293_435 : js_OkG 293 435 (o_go 2851) := js_St.okG (st_goto (by decide) d_293_435) (fun _ _ _ _ _ => rfl)
theorem ki_293_434 : js_OkG 293 434 (o_rZ) := og_rZ d_293_434
theorem ki_293_433 : js_OkG 293 433 (o_ic 0 434) := js_St.okG (st_iconst rfl d_293_433) (fun _ _ _ _ _ => rfl)
theorem ki_293_463 : js_OkG 293 463 (o_rZ) := og_rZ d_293_463
theorem ki_293_462 : js_OkG 293 462 (o_ic 0 463) := js_St.okG (st_iconst rfl d_293_462) (fun _ _ _ _ _ => rfl)
theorem ki_293_459 : js_OkG 293 459 (o_ceq 2851 462) := js_St.okG (st_iceq (by decide) d_293_459) (fun _ _ _ _ _ => rfl)
theorem ki_293_456 : js_OkG 293 456 (o_cI 165 1 9 459) := og_cI (site_V kk_293_165 (by decide) kw_1356 kw_1357 kw_1358 (fun t ht => by cases ht; exact Or.inl ⟨_, rfl, rfl⟩) d_293_456) rfl rfl
theorem ki_293_455 : js_OkG 293 455 (o_al 2 456) := js_St.okG (st_aloadn rfl d_293_455) (fun _ _ _ _ _ => rfl)
theorem ki_293_452 : js_OkG 293 452 (o_cI 63 1 8 455) := og_cI (site_V kk_293_63 (by decide) kw_308 kw_309 kw_310 (fun t ht => by cases ht; exact Or.inl ⟨_, rfl, rfl⟩) d_293_452) rfl rfl
theorem ki_293_451 : js_OkG 293 451 (o_al 1 452) := js_St.okG (st_aloadn rfl d_293_451) (fun _ _ _ _ _ => rfl)
theorem ki_293_450 : js_OkG 293 450 (o_rZ) := og_rZ d_293_450
theorem ki_293_449 : js_OkG 293 449 (o_ic 0 450) := js_St.okG (st_iconst rfl d_293_449) (fun _ _ _ _ _ => rfl)
theorem ki_293_479 : js_OkG 293 479 (o_il 5 481) := js_St.okG (st_iload d_293_479) (fun _ _ _ _ _ => rfl)
theorem ki_293_478 : js_OkG 293 478 (o_al 0 479) := js_St.okG (st_aloadn rfl d_293_478) (fun _ _ _ _ _ => rfl)
theorem ki_293_477 : js_OkG 293 477 (o_al 2 478) := js_St.okG (st_aloadn rfl d_293_477) (fun _ _ _ _ _ => rfl)
theorem ki_293_475 : js_OkG 293 475 (o_is 6 477) := js_St.okG (st_istore (Nat.le_of_ble_eq_true rfl) d_293_475) (fun _ _ _ _ _ => rfl)
theorem ki_293_472 : js_OkG 293 472 (o_cI 257 3 0 475) := og_sI kB_257 rfl kw_701 kw_702 d_293_472
theorem ki_293_471 : js_OkG 293 471 (o_al 3 472) := js_St.okG (st_aloadn rfl d_293_471) (fun _ _ _ _ _ => rfl)
theorem ki_293_470 : js_OkG 293 470 (o_lI 100 471) := js_St.okG (st_lI d_293_470) (fun _ _ _ _ _ => rfl)
theorem ki_293_469 : js_OkG 293 469 (o_b2 (fun x y => x + y) 470) := js_St.okG (st_iadd d_293_469) (fun _ _ _ _ _ => rfl)
theorem ki_293_468 : js_OkG 293 468 (o_ic 1 469) := js_St.okG (st_iconst rfl d_293_468) (fun _ _ _ _ _ => rfl)
theorem ki_293_466 : js_OkG 293 466 (o_il 5 468) := js_St.okG (st_iload d_293_466) (fun _ _ _ _ _ => rfl)
theorem ki_293_465 : js_OkG 293 465 (o_al 0 466) := js_St.okG (st_aloadn rfl d_293_465) (fun _ _ _ _ _ => rfl)
theorem ki_293_464 : js_OkG 293 464 (o_al 1 465) := js_St.okG (st_aloadn rfl d_293_464) (fun _ _ _ _ _ => rfl)
theorem ki_293_495 : js_OkG 293 495 (o_ceq 500 498) := js_St.okG (st_iceq (by decide) d_293_495) (fun _ _ _ _ _ => rfl)
theorem ki_293_493 : js_OkG 293 493 (o_il 6 495) := js_St.okG (st_iload d_293_493) (fun _ _ _ _ _ => rfl)
theorem ki_293_490 : js_OkG 293 490 (o_cI 134 1 9 493) := og_cI (site_V kk_293_134 (by decide) kw_1285 kw_1286 kw_1287 (fun t ht => by cases ht; exact Or.inl ⟨_, rfl, rfl⟩) d_293_490) rfl rfl
theorem ki_293_489 : js_OkG 293 489 (o_al 2 490) := js_St.okG (st_aloadn rfl d_293_489) (fun _ _ _ _ _ => rfl)
theorem ki_293_487 : js_OkG 293 487 (o_is 7 489) := js_St.okG (st_istore (Nat.le_of_ble_eq_true rfl) d_293_487) (fun _ _ _ _ _ => rfl)
theorem ki_293_484 : js_OkG 293 484 (o_cI 166 2 9 487) := og_cI (site_V kk_293_166 (by decide) kw_1360 kw_1361 kw_1362 (fun t ht => by cases ht; exact Or.inl ⟨_, rfl, rfl⟩) d_293_484) rfl rfl
theorem ki_293_483 : js_OkG 293 483 (o_lI 100 484) := js_St.okG (st_lI d_293_483) (fun _ _ _ _ _ => rfl)
theorem ki_293_482 : js_OkG 293 482 (o_b2 (fun x y => x + y) 483) := js_St.okG (st_iadd d_293_482) (fun _ _ _ _ _ => rfl)
theorem ki_293_481 : js_OkG 293 481 (o_ic 1 482) := js_St.okG (st_iconst rfl d_293_481) (fun _ _ _ _ _ => rfl)
theorem ki_293_511 : js_OkG 293 511 (o_lcmp 512) := js_St.okG (st_lcmp d_293_511) (fun _ _ _ _ _ => rfl)
theorem ki_293_510 : js_OkG 293 510 (o_i2l 511) := js_St.okG (st_i2l d_293_510) (fun _ _ _ _ _ => rfl)
theorem ki_293_508 : js_OkG 293 508 (o_il 7 510) := js_St.okG (st_iload d_293_508) (fun _ _ _ _ _ => rfl)
theorem ki_293_507 : js_OkG 293 507 (o_lL 102 508) := js_St.okG (st_lL d_293_507) (fun _ _ _ _ _ => rfl)
theorem ki_293_506 : js_OkG 293 506 (o_ic 0 507) := js_St.okG (st_iconst rfl d_293_506) (fun _ _ _ _ _ => rfl)
theorem ki_293_505 : js_OkG 293 505 (o_al 3 506) := js_St.okG (st_aloadn rfl d_293_505) (fun _ _ _ _ _ => rfl)
theorem ki_293_502 : js_OkG 293 502 (o_ne 517 505) := js_St.okG (st_ifne (by decide) d_293_502) (fun _ _ _ _ _ => rfl)
theorem ki_293_500 : js_OkG 293 500 (o_il 6 502) := js_St.okG (st_iload d_293_500) (fun _ _ _ _ _ => rfl)
theorem ki_293_499 : js_OkG 293 499 (o_rZ) := og_rZ d_293_499
theorem ki_293_498 : js_OkG 293 498 (o_ic 0 499) := js_St.okG (st_iconst rfl d_293_498) (fun _ _ _ _ _ => rfl)
theorem ki_293_527 : js_OkG 293 527 (o_cI 65 2 8 530) := og_cI (site_V kk_293_65 (by decide) kw_320 kw_321 kw_322 (fun t ht => by cases ht; exact Or.inl ⟨_, rfl, rfl⟩) d_293_527) rfl rfl
theorem ki_293_526 : js_OkG 293 526 (o_lI 100 527) := js_St.okG (st_lI d_293_526) (fun _ _ _ _ _ => rfl)
theorem ki_293_525 : js_OkG 293 525 (o_b2 (fun x y => x + y) 526) := js_St.okG (st_iadd d_293_525) (fun _ _ _ _ _ => rfl)
theorem ki_293_524 : js_OkG 293 524 (o_ic 1 525) := js_St.okG (st_iconst rfl d_293_524) (fun _ _ _ _ _ => rfl)
theorem ki_293_522 : js_OkG 293 522 (o_il 5 524) := js_St.okG (st_iload d_293_522) (fun _ _ _ _ _ => rfl)
theorem ki_293_521 : js_OkG 293 521 (o_al 0 522) := js_St.okG (st_aloadn rfl d_293_521) (fun _ _ _ _ _ => rfl)
theorem ki_293_520 : js_OkG 293 520 (o_al 1 521) := js_St.okG (st_aloadn rfl d_293_520) (fun _ _ _ _ _ => rfl)
theorem ki_293_517 : js_OkG 293 517 (o_go 2851) := js_St.okG (st_goto (by decide) d_293_517) (fun _ _ _ _ _ => rfl)
theorem ki_293_516 : js_OkG 293 516 (o_rZ) := og_rZ d_293_516
theorem ki_293_515 : js_OkG 293 515 (o_ic 0 516) := js_St.okG (st_iconst rfl d_293_515) (fun _ _ _ _ _ => rfl)
theorem ki_293_512 : js_OkG 293 512 (o_eq 517 515) := js_St.okG (st_ifeq (by decide) d_293_512) (fun _ _ _ _ _ => rfl)
theorem ki_293_543 : js_OkG 293 543 (o_ic 0 544) := js_St.okG (st_iconst rfl d_293_543) (fun _ _ _ _ _ => rfl)
theorem ki_293_540 : js_OkG 293 540 (o_ceq 2851 543) := js_St.okG (st_iceq (by decide) d_293_540) (fun _ _ _ _ _ => rfl)
theorem ki_293_537 : js_OkG 293 537 (o_cI 167 2 9 540) := og_cI (site_V kk_293_167 (by decide) kw_1372 kw_1373 kw_1374 (fun t ht => by cases ht; exact Or.inl ⟨_, rfl, rfl⟩) d_293_537) rfl rfl
theorem ki_293_536 : js_OkG 293 536 (o_lI 100 537) := js_St.okG (st_lI d_293_536) (fun _ _ _ _ _ => rfl)
theorem ki_293_535 : js_OkG 293 535 (o_b2 (fun x y => x + y) 536) := js_St.okG (st_iadd d_293_535) (fun _ _ _ _ _ => rfl)
theorem ki_293_534 : js_OkG 293 534 (o_ic 1 535) := js_St.okG (st_iconst rfl d_293_534) (fun _ _ _ _ _ => rfl)
theorem ki_293_532 : js_OkG 293 532 (o_il 5 534) := js_St.okG (st_iload d_293_532) (fun _ _ _ _ _ => rfl)
theorem ki_293_531 : js_OkG 293 531 (o_al 0 532) := js_St.okG (st_aloadn rfl d_293_531) (fun _ _ _ _ _ => rfl)
theorem ki_293_530 : js_OkG 293 530 (o_al 2 531) := js_St.okG (st_aloadn rfl d_293_530) (fun _ _ _ _ _ => rfl)
theorem ki_293_559 : js_OkG 293 559 (o_al 0 560) := js_St.okG (st_aloadn rfl d_293_559) (fun _ _ _ _ _ => rfl)
theorem ki_293_558 : js_OkG 293 558 (o_al 2 559) := js_St.okG (st_aloadn rfl d_293_558) (fun _ _ _ _ _ => rfl)
theorem ki_293_556 : js_OkG 293 556 (o_is 6 558) := js_St.okG (st_istore (Nat.le_of_ble_eq_true rfl) d_293_556) (fun _ _ _ _ _ => rfl)
theorem ki_293_553 : js_OkG 293 553 (o_cI 258 3 0 556) := og_sI kB_258 rfl kw_734 kw_735 d_293_553
theorem ki_293_552 : js_OkG 293 552 (o_al 3 553) := js_St.okG (st_aloadn rfl d_293_552) (fun _ _ _ _ _ => rfl)
theorem ki_293_551 : js_OkG 293 551 (o_lI 100 552) := js_St.okG (st_lI d_293_551) (fun _ _ _ _ _ => rfl)
theorem ki_293_550 : js_OkG 293 550 (o_b2 (fun x y => x + y) 551) := js_St.okG (st_iadd d_293_550) (fun _ _ _ _ _ => rfl)
theorem ki_293_549 : js_OkG 293 549 (o_ic 1 550) := js_St.okG (st_iconst rfl d_293_549) (fun _ _ _ _ _ => rfl)
theorem ki_293_547 : js_OkG 293 547 (o_il 5 549) := js_St.okG (st_iload d_293_547) (fun _ _ _ _ _ => rfl)
theorem ki_293_546 : js_OkG 293 546 (o_al 0 547) := js_St.okG (st_aloadn rfl d_293_546) (fun _ _ _ _ _ => rfl)
theorem ki_293_545 : js_OkG 293 545 (o_al 1 546) := js_St.okG (st_aloadn rfl d_293_545) (fun _ _ _ _ _ => rfl)
theorem ki_293_544 : js_OkG 293 544 (o_rZ) := og_rZ d_293_544
theorem ki_293_574 : js_OkG 293 574 (o_il 6 576) := js_St.okG (st_iload d_293_574) (fun _ _ _ _ _ => rfl)
theorem ki_293_571 : js_OkG 293 571 (o_cI 134 1 9 574) := og_cI (site_V kk_293_134 (by decide) kw_1285 kw_1286 kw_1287 (fun t ht => by cases ht; exact Or.inl ⟨_, rfl, rfl⟩) d_293_571) rfl rfl
theorem ki_293_570 : js_OkG 293 570 (o_al 2 571) := js_St.okG (st_aloadn rfl d_293_570) (fun _ _ _ _ _ => rfl)
theorem ki_293_568 : js_OkG 293 568 (o_is 7 570) := js_St.okG (st_istore (Nat.le_of_ble_eq_true rfl) d_293_568) (fun _ _ _ _ _ => rfl)
theorem ki_293_565 : js_OkG 293 565 (o_cI 168 2 9 568) := og_cI (site_V kk_293_168 (by decide) kw_1376 kw_1377 kw_1378 (fun t ht => by cases ht; exact Or.inl ⟨_, rfl, rfl⟩) d_293_565) rfl rfl
theorem ki_293_564 : js_OkG 293 564 (o_lI 100 565) := js_St.okG (st_lI d_293_564) (fun _ _ _ _ _ => rfl)
theorem ki_293_563 : js_OkG 293 563 (o_b2 (fun x y => x + y) 564) := js_St.okG (st_iadd d_293_563) (fun _ _ _ _ _ => rfl)
theorem ki_293_562 : js_OkG 293 562 (o_ic 1 563) := js_St.okG (st_iconst rfl d_293_562) (fun _ _ _ _ _ => rfl)
theorem ki_293_560 : js_OkG 293 560 (o_il 5 562) := js_St.okG (st_iload d_293_560) (fun _ _ _ _ _ => rfl)
theorem ki_293_591 : js_OkG 293 591 (o_i2l 592) := js_St.okG (st_i2l d_293_591) (fun _ _ _ _ _ => rfl)
theorem ki_293_589 : js_OkG 293 589 (o_il 7 591) := js_St.okG (st_iload d_293_589) (fun _ _ _ _ _ => rfl)
theorem ki_293_588 : js_OkG 293 588 (o_lL 102 589) := js_St.okG (st_lL d_293_588) (fun _ _ _ _ _ => rfl)
theorem ki_293_587 : js_OkG 293 587 (o_ic 0 588) := js_St.okG (st_iconst rfl d_293_587) (fun _ _ _ _ _ => rfl)
theorem ki_293_586 : js_OkG 293 586 (o_al 3 587) := js_St.okG (st_aloadn rfl d_293_586) (fun _ _ _ _ _ => rfl)
theorem ki_293_583 : js_OkG 293 583 (o_ne 598 586) := js_St.okG (st_ifne (by decide) d_293_583) (fun _ _ _ _ _ => rfl)
theorem ki_293_581 : js_OkG 293 581 (o_il 6 583) := js_St.okG (st_iload d_293_581) (fun _ _ _ _ _ => rfl)
theorem ki_293_580 : js_OkG 293 580 (o_rZ) := og_rZ d_293_580
theorem ki_293_579 : js_OkG 293 579 (o_ic 0 580) := js_St.okG (st_iconst rfl d_293_579) (fun _ _ _ _ _ => rfl)
theorem ki_293_576 : js_OkG 293 576 (o_ceq 581 579) := js_St.okG (st_iceq (by decide) d_293_576) (fun _ _ _ _ _ => rfl)
theorem ki_293_607 : js_OkG 293 607 (o_lI 100 608) := js_St.okG (st_lI d_293_607) (fun _ _ _ _ _ => rfl)
theorem ki_293_606 : js_OkG 293 606 (o_b2 (fun x y => x + y) 607) := js_St.okG (st_iadd d_293_606) (fun _ _ _ _ _ => rfl)
theorem ki_293_605 : js_OkG 293 605 (o_ic 1 606) := js_St.okG (st_iconst rfl d_293_605) (fun _ _ _ _ _ => rfl)
theorem ki_293_603 : js_OkG 293 603 (o_il 5 605) := js_St.okG (st_iload d_293_603) (fun _ _ _ _ _ => rfl)
theorem ki_293_602 : js_OkG 293 602 (o_al 0 603) := js_St.okG (st_aloadn rfl d_293_602) (fun _ _ _ _ _ => rfl)
theorem ki_293_601 : js_OkG 293 601 (o_al 1 602) := js_St.okG (st_aloadn rfl d_293_601) (fun _ _ _ _ _ => rfl)
theorem ki_293_598 : js_OkG 293 598 (o_go 2851) := js_St.okG (st_goto (by decide) d_293_598) (fun _ _ _ _ _ => rfl)
theorem ki_293_597 : js_OkG 293 597 (o_rZ) := og_rZ d_293_597
theorem ki_293_596 : js_OkG 293 596 (o_ic 0 597) := js_St.okG (st_iconst rfl d_293_596) (fun _ _ _ _ _ => rfl)
theorem ki_293_593 : js_OkG 293 593 (o_eq 598 596) := js_St.okG (st_ifeq (by decide) d_293_593) (fun _ _ _ _ _ => rfl)
theorem ki_293_592 : js_OkG 293 592 (o_lcmp 593) := js_St.okG (st_lcmp d_293_592) (fun _ _ _ _ _ => rfl)
theorem ki_293_621 : js_OkG 293 621 (o_cI 169 2 9 624) := og_cI (site_V kk_293_169 (by decide) kw_1380 kw_1381 kw_1382 (fun t ht => by cases ht; exact Or.inl ⟨_, rfl, rfl⟩) d_293_621) rfl rfl
theorem ki_293_620 : js_OkG 293 620 (o_lI 100 621) := js_St.okG (st_lI d_293_620) (fun _ _ _ _ _ => rfl)
theorem ki_293_619 : js_OkG 293 619 (o_b2 (fun x y => x + y) 620) := js_St.okG (st_iadd d_293_619) (fun _ _ _ _ _ => rfl)
theorem ki_293_618 : js_OkG 293 618 (o_ic 1 619) := js_St.okG (st_iconst rfl d_293_618) (fun _ _ _ _ _ => rfl)
theorem ki_293_616 : js_OkG 293 616 (o_il 5 618) := js_St.okG (st_iload d_293_616) (fun _ _ _ _ _ => rfl)
theorem ki_293_615 : js_OkG 293 615 (o_al 0 616) := js_St.okG (st_aloadn rfl d_293_615) (fun _ _ _ _ _ => rfl)
theorem ki_293_614 : js_OkG 293 614 (o_al 2 615) := js_St.okG (st_aloadn rfl d_293_614) (fun _ _ _ _ _ => rfl)
theorem ki_293_612 : js_OkG 293 612 (o_is 6 614) := js_St.okG (st_istore (Nat.le_of_ble_eq_true rfl) d_293_612) (fun _ _ _ _ _ => rfl)
theorem ki_293_609 : js_OkG 293 609 (o_cI 259 3 0 612) := og_sI kB_259 rfl kw_745 kw_746 d_293_609
theorem ki_293_608 : js_OkG 293 608 (o_al 3 609) := js_St.okG (st_aloadn rfl d_293_608) (fun _ _ _ _ _ => rfl)
theorem ki_293_639 : js_OkG 293 639 (o_ne 654 642) := js_St.okG (st_ifne (by decide) d_293_639) (fun _ _ _ _ _ => rfl)
theorem ki_293_637 : js_OkG 293 637 (o_il 6 639) := js_St.okG (st_iload d_293_637) (fun _ _ _ _ _ => rfl)
theorem ki_293_636 : js_OkG 293 636 (o_rZ) := og_rZ d_293_636
theorem ki_293_635 : js_OkG 293 635 (o_ic 0 636) := js_St.okG (st_iconst rfl d_293_635) (fun _ _ _ _ _ => rfl)
theorem ki_293_632 : js_OkG 293 632 (o_ceq 637 635) := js_St.okG (st_iceq (by decide) d_293_632) (fun _ _ _ _ _ => rfl)
theorem ki_293_630 : js_OkG 293 630 (o_il 6 632) := js_St.okG (st_iload d_293_630) (fun _ _ _ _ _ => rfl)
theorem ki_293_627 : js_OkG 293 627 (o_cI 134 1 9 630) := og_cI (site_V kk_293_134 (by decide) kw_1285 kw_1286 kw_1287 (fun t ht => by cases ht; exact Or.inl ⟨_, rfl, rfl⟩) d_293_627) rfl rfl
theorem ki_293_626 : js_OkG 293 626 (o_al 2 627) := js_St.okG (st_aloadn rfl d_293_626) (fun _ _ _ _ _ => rfl)
theorem ki_293_624 : js_OkG 293 624 (o_is 7 626) := js_St.okG (st_istore (Nat.le_of_ble_eq_true rfl) d_293_624) (fun _ _ _ _ _ => rfl)
theorem ki_293_654 : js_OkG 293 654 (o_go 2851) := js_St.okG (st_goto (by decide) d_293_654) (fun _ _ _ _ _ => rfl)
theorem ki_293_653 : js_OkG 293 653 (o_rZ) := og_rZ d_293_653
theorem ki_293_652 : js_OkG 293 652 (o_ic 0 653) := js_St.okG (st_iconst rfl d_293_652) (fun _ _ _ _ _ => rfl)
theorem ki_293_649 : js_OkG 293 649 (o_eq 654 652) := js_St.okG (st_ifeq (by decide) d_293_649) (fun _ _ _ _ _ => rfl)
theorem ki_293_648 : js_OkG 293 648 (o_lcmp 649) := js_St.okG (st_lcmp d_293_648) (fun _ _ _ _ _ => rfl)
theorem ki_293_647 : js_OkG 293 647 (o_i2l 648) := js_St.okG (st_i2l d_293_647) (fun _ _ _ _ _ => rfl)
theorem ki_293_645 : js_OkG 293 645 (o_il 7 647) := js_St.okG (st_iload d_293_645) (fun _ _ _ _ _ => rfl)
theorem ki_293_644 : js_OkG 293 644 (o_lL 102 645) := js_St.okG (st_lL d_293_644) (fun _ _ _ _ _ => rfl)
theorem ki_293_643 : js_OkG 293 643 (o_ic 0 644) := js_St.okG (st_iconst rfl d_293_643) (fun _ _ _ _ _ => rfl)
theorem ki_293_642 : js_OkG 293 642 (o_al 3 643) := js_St.okG (st_aloadn rfl d_293_642) (fun _ _ _ _ _ => rfl)
theorem ki_293_671 : js_OkG 293 671 (o_cI 260 4 0 674) := og_sI kB_260 rfl kw_752 kw_753 d_293_671
theorem ki_293_670 : js_OkG 293 670 (o_al 3 671) := js_St.okG (st_aloadn rfl d_293_670) (fun _ _ _ _ _ => rfl)
theorem ki_293_669 : js_OkG 293 669 (o_lI 100 670) := js_St.okG (st_lI d_293_669) (fun _ _ _ _ _ => rfl)
theorem ki_293_668 : js_OkG 293 668 (o_b2 (fun x y => x + y) 669) := js_St.okG (st_iadd d_293_668) (fun _ _ _ _ _ => rfl)
theorem ki_293_667 : js_OkG 293 667 (o_ic 2 668) := js_St.okG (st_iconst rfl d_293_667) (fun _ _ _ _ _ => rfl)
theorem ki_293_665 : js_OkG 293 665 (o_il 5 667) := js_St.okG (st_iload d_293_665) (fun _ _ _ _ _ => rfl)
theorem ki_293_664 : js_OkG 293 664 (o_al 0 665) := js_St.okG (st_aloadn rfl d_293_664) (fun _ _ _ _ _ => rfl)
theorem ki_293_663 : js_OkG 293 663 (o_lI 100 664) := js_St.okG (st_lI d_293_663) (fun _ _ _ _ _ => rfl)
theorem ki_293_662 : js_OkG 293 662 (o_b2 (fun x y => x + y) 663) := js_St.okG (st_iadd d_293_662) (fun _ _ _ _ _ => rfl)
theorem ki_293_661 : js_OkG 293 661 (o_ic 1 662) := js_St.okG (st_iconst rfl d_293_661) (fun _ _ _ _ _ => rfl)
theorem ki_293_659 : js_OkG 293 659 (o_il 5 661) := js_St.okG (st_iload d_293_659) (fun _ _ _ _ _ => rfl)
theorem ki_293_658 : js_OkG 293 658 (o_al 0 659) := js_St.okG (st_aloadn rfl d_293_658) (fun _ _ _ _ _ => rfl)
theorem ki_293_657 : js_OkG 293 657 (o_al 1 658) := js_St.okG (st_aloadn rfl d_293_657) (fun _ _ _ _ _ => rfl)
theorem ki_293_687 : js_OkG 293 687 (o_b2 (fun x y => x + y) 688) := js_St.okG (st_iadd d_293_687) (fun _ _ _ _ _ => rfl)
theorem ki_293_686 : js_OkG 293 686 (o_ic 2 687) := js_St.okG (st_iconst rfl d_293_686) (fun _ _ _ _ _ => rfl)
theorem ki_293_684 : js_OkG 293 684 (o_il 5 686) := js_St.okG (st_iload d_293_684) (fun _ _ _ _ _ => rfl)
theorem ki_293_683 : js_OkG 293 683 (o_al 0 684) := js_St.okG (st_aloadn rfl d_293_683) (fun _ _ _ _ _ => rfl)
theorem ki_293_682 : js_OkG 293 682 (o_lI 100 683) := js_St.okG (st_lI d_293_682) (fun _ _ _ _ _ => rfl)
theorem ki_293_681 : js_OkG 293 681 (o_b2 (fun x y => x + y) 682) := js_St.okG (st_iadd d_293_681) (fun _ _ _ _ _ => rfl)
theorem ki_293_680 : js_OkG 293 680 (o_ic 1 681) := js_St.okG (st_iconst rfl d_293_680) (fun _ _ _ _ _ => rfl)
theorem ki_293_678 : js_OkG 293 678 (o_il 5 680) := js_St.okG (st_iload d_293_678) (fun _ _ _ _ _ => rfl)
theorem ki_293_677 : js_OkG 293 677 (o_al 0 678) := js_St.okG (st_aloadn rfl d_293_677) (fun _ _ _ _ _ => rfl)
theorem ki_293_676 : js_OkG 293 676 (o_al 2 677) := js_St.okG (st_aloadn rfl d_293_676) (fun _ _ _ _ _ => rfl)
theorem ki_293_674 : js_OkG 293 674 (o_is 6 676) := js_St.okG (st_istore (Nat.le_of_ble_eq_true rfl) d_293_674) (fun _ _ _ _ _ => rfl)
theorem ki_293_703 : js_OkG 293 703 (o_ic 0 704) := js_St.okG (st_iconst rfl d_293_703) (fun _ _ _ _ _ => rfl)
theorem ki_293_700 : js_OkG 293 700 (o_ceq 705 703) := js_St.okG (st_iceq (by decide) d_293_700) (fun _ _ _ _ _ => rfl)
theorem ki_293_698 : js_OkG 293 698 (o_il 6 700) := js_St.okG (st_iload d_293_698) (fun _ _ _ _ _ => rfl)
theorem ki_293_695 : js_OkG 293 695 (o_cI 134 1 9 698) := og_cI (site_V kk_293_134 (by decide) kw_1285 kw_1286 kw_1287 (fun t ht => by cases ht; exact Or.inl ⟨_, rfl, rfl⟩) d_293_695) rfl rfl
theorem ki_293_694 : js_OkG 293 694 (o_al 2 695) := js_St.okG (st_aloadn rfl d_293_694) (fun _ _ _ _ _ => rfl)
theorem ki_293_692 : js_OkG 293 692 (o_is 7 694) := js_St.okG (st_istore (Nat.le_of_ble_eq_true rfl) d_293_692) (fun _ _ _ _ _ => rfl)
theorem ki_293_689 : js_OkG 293 689 (o_cI 170 3 9 692) := og_cI (site_V kk_293_170 (by decide) kw_1384 kw_1385 kw_1386 (fun t ht => by cases ht; exact Or.inl ⟨_, rfl, rfl⟩) d_293_689) rfl rfl
theorem ki_293_688 : js_OkG 293 688 (o_lI 100 689) := js_St.okG (st_lI d_293_688) (fun _ _ _ _ _ => rfl)
theorem ki_293_717 : js_OkG 293 717 (o_eq 722 720) := js_St.okG (st_ifeq (by decide) d_293_717) (fun _ _ _ _ _ => rfl)
theorem ki_293_716 : js_OkG 293 716 (o_lcmp 717) := js_St.okG (st_lcmp d_293_716) (fun _ _ _ _ _ => rfl)
theorem ki_293_715 : js_OkG 293 715 (o_i2l 716) := js_St.okG (st_i2l d_293_715) (fun _ _ _ _ _ => rfl)
theorem ki_293_713 : js_OkG 293 713 (o_il 7 715) := js_St.okG (st_iload d_293_713) (fun _ _ _ _ _ => rfl)
theorem ki_293_712 : js_OkG 293 712 (o_lL 102 713) := js_St.okG (st_lL d_293_712) (fun _ _ _ _ _ => rfl)
theorem ki_293_711 : js_OkG 293 711 (o_ic 0 712) := js_St.okG (st_iconst rfl d_293_711) (fun _ _ _ _ _ => rfl)
theorem ki_293_710 : js_OkG 293 710 (o_al 3 711) := js_St.okG (st_aloadn rfl d_293_710) (fun _ _ _ _ _ => rfl)
theorem ki_293_707 : js_OkG 293 707 (o_ne 722 710) := js_St.okG (st_ifne (by decide) d_293_707) (fun _ _ _ _ _ => rfl)
theorem ki_293_705 : js_OkG 293 705 (o_il 6 707) := js_St.okG (st_iload d_293_705) (fun _ _ _ _ _ => rfl)
theorem ki_293_704 : js_OkG 293 704 (o_rZ) := og_rZ d_293_704
theorem ki_293_733 : js_OkG 293 733 (o_cI 261 3 0 736) := og_sI kB_261 rfl kw_764 kw_765 d_293_733
theorem ki_293_732 : js_OkG 293 732 (o_al 3 733) := js_St.okG (st_aloadn rfl d_293_732) (fun _ _ _ _ _ => rfl)
theorem ki_293_731 : js_OkG 293 731 (o_lI 100 732) := js_St.okG (st_lI d_293_731) (fun _ _ _ _ _ => rfl)
theorem ki_293_730 : js_OkG 293 730 (o_b2 (fun x y => x + y) 731) := js_St.okG (st_iadd d_293_730) (fun _ _ _ _ _ => rfl)
theorem ki_293_729 : js_OkG 293 729 (o_ic 1 730) := js_St.okG (st_iconst rfl d_293_729) (fun _ _ _ _ _ => rfl)
theorem ki_293_727 : js_OkG 293 727 (o_il 5 729) := js_St.okG (st_iload d_293_727) (fun _ _ _ _ _ => rfl)
theorem ki_293_726 : js_OkG 293 726 (o_al 0 727) := js_St.okG (st_aloadn rfl d_293_726) (fun _ _ _ _ _ => rfl)
theorem ki_293_725 : js_OkG 293 725 (o_al 1 726) := js_St.okG (st_aloadn rfl d_293_725) (fun _ _ _ _ _ => rfl)
theorem ki_293_722 : js_OkG 293 722 (o_go 2851) := js_St.okG (st_goto (by decide) d_293_722) (fun _ _ _ _ _ => rfl)
theorem ki_293_721 : js_OkG 293 721 (o_rZ) := og_rZ d_293_721
theorem ki_293_720 : js_OkG 293 720 (o_ic 0 721) := js_St.okG (st_iconst rfl d_293_720) (fun _ _ _ _ _ => rfl)
theorem ki_293_751 : js_OkG 293 751 (o_cI 134 1 9 754) := og_cI (site_V kk_293_134 (by decide) kw_1285 kw_1286 kw_1287 (fun t ht => by cases ht; exact Or.inl ⟨_, rfl, rfl⟩) d_293_751) rfl rfl
theorem ki_293_750 : js_OkG 293 750 (o_al 2 751) := js_St.okG (st_aloadn rfl d_293_750) (fun _ _ _ _ _ => rfl)
theorem ki_293_748 : js_OkG 293 748 (o_is 7 750) := js_St.okG (st_istore (Nat.le_of_ble_eq_true rfl) d_293_748) (fun _ _ _ _ _ => rfl)
theorem ki_293_745 : js_OkG 293 745 (o_cI 171 2 9 748) := og_cI (site_V kk_293_171 (by decide) kw_1392 kw_1393 kw_1394 (fun t ht => by cases ht; exact Or.inl ⟨_, rfl, rfl⟩) d_293_745) rfl rfl
theorem ki_293_744 : js_OkG 293 744 (o_lI 100 745) := js_St.okG (st_lI d_293_744) (fun _ _ _ _ _ => rfl)
theorem ki_293_743 : js_OkG 293 743 (o_b2 (fun x y => x + y) 744) := js_St.okG (st_iadd d_293_743) (fun _ _ _ _ _ => rfl)
theorem ki_293_742 : js_OkG 293 742 (o_ic 1 743) := js_St.okG (st_iconst rfl d_293_742) (fun _ _ _ _ _ => rfl)
theorem ki_293_740 : js_OkG 293 740 (o_il 5 742) := js_St.okG (st_iload d_293_740) (fun _ _ _ _ _ => rfl)
theorem ki_293_739 : js_OkG 293 739 (o_al 0 740) := js_St.okG (st_aloadn rfl d_293_739) (fun _ _ _ _ _ => rfl)
theorem ki_293_738 : js_OkG 293 738 (o_al 2 739) := js_St.okG (st_aloadn rfl d_293_738) (fun _ _ _ _ _ => rfl)
theorem ki_293_736 : js_OkG 293 736 (o_is 6 738) := js_St.okG (st_istore (Nat.le_of_ble_eq_true rfl) d_293_736) (fun _ _ _ _ _ => rfl)
theorem ki_293_767 : js_OkG 293 767 (o_ic 0 768) := js_St.okG (st_iconst rfl d_293_767) (fun _ _ _ _ _ => rfl)
theorem ki_293_766 : js_OkG 293 766 (o_al 3 767) := js_St.okG (st_aloadn rfl d_293_766) (fun _ _ _ _ _ => rfl)
theorem ki_293_763 : js_OkG 293 763 (o_ne 785 766) := js_St.okG (st_ifne (by decide) d_293_763) (fun _ _ _ _ _ => rfl)
theorem ki_293_761 : js_OkG 293 761 (o_il 6 763) := js_St.okG (st_iload d_293_761) (fun _ _ _ _ _ => rfl)
theorem ki_293_760 : js_OkG 293 760 (o_rZ) := og_rZ d_293_760
theorem ki_293_759 : js_OkG 293 759 (o_ic 0 760) := js_St.okG (st_iconst rfl d_293_759) (fun _ _ _ _ _ => rfl)
theorem ki_293_756 : js_OkG 293 756 (o_ceq 761 759) := js_St.okG (st_iceq (by decide) d_293_756) (fun _ _ _ _ _ => rfl)
theorem ki_293_754 : js_OkG 293 754 (o_il 6 756) := js_St.okG (st_iload d_293_754) (fun _ _ _ _ _ => rfl)
theorem ki_293_783 : js_OkG 293 783 (o_ic 0 784) := js_St.okG (st_iconst rfl d_293_783) (fun _ _ _ _ _ => rfl)
theorem ki_293_780 : js_OkG 293 780 (o_eq 785 783) := js_St.okG (st_ifeq (by decide) d_293_780) (fun _ _ _ _ _ => rfl)
theorem ki_293_779 : js_OkG 293 779 (o_lcmp 780) := js_St.okG (st_lcmp d_293_779) (fun _ _ _ _ _ => rfl)
theorem ki_293_778 : js_OkG 293 778 (o_lc 0 779) := js_St.okG (st_lconst rfl d_293_778) (fun _ _ _ _ _ => rfl)
theorem ki_293_775 : js_OkG 293 775 (o_go 779) := js_St.okG (st_goto (by decide) d_293_775) (fun _ _ _ _ _ => rfl)
theorem ki_293_774 : js_OkG 293 774 (o_lc 1 775) := js_St.okG (st_lconst rfl d_293_774) (fun _ _ _ _ _ => rfl)
theorem ki_293_771 : js_OkG 293 771 (o_eq 778 774) := js_St.okG (st_ifeq (by decide) d_293_771) (fun _ _ _ _ _ => rfl)
theorem ki_293_769 : js_OkG 293 769 (o_il 7 771) := js_St.okG (st_iload d_293_769) (fun _ _ _ _ _ => rfl)
theorem ki_293_768 : js_OkG 293 768 (o_lL 102 769) := js_St.okG (st_lL d_293_768) (fun _ _ _ _ _ => rfl)
theorem ki_293_799 : js_OkG 293 799 (o_is 6 801) := js_St.okG (st_istore (Nat.le_of_ble_eq_true rfl) d_293_799) (fun _ _ _ _ _ => rfl)
theorem ki_293_796 : js_OkG 293 796 (o_cI 262 3 0 799) := og_sI kB_262 rfl kw_772 kw_773 d_293_796
theorem ki_293_795 : js_OkG 293 795 (o_al 3 796) := js_St.okG (st_aloadn rfl d_293_795) (fun _ _ _ _ _ => rfl)
theorem ki_293_794 : js_OkG 293 794 (o_lI 100 795) := js_St.okG (st_lI d_293_794) (fun _ _ _ _ _ => rfl)
theorem ki_293_793 : js_OkG 293 793 (o_b2 (fun x y => x + y) 794) := js_St.okG (st_iadd d_293_793) (fun _ _ _ _ _ => rfl)
theorem ki_293_792 : js_OkG 293 792 (o_ic 1 793) := js_St.okG (st_iconst rfl d_293_792) (fun _ _ _ _ _ => rfl)
theorem ki_293_790 : js_OkG 293 790 (o_il 5 792) := js_St.okG (st_iload d_293_790) (fun _ _ _ _ _ => rfl)
theorem ki_293_789 : js_OkG 293 789 (o_al 0 790) := js_St.okG (st_aloadn rfl d_293_789) (fun _ _ _ _ _ => rfl)
theorem ki_293_788 : js_OkG 293 788 (o_al 1 789) := js_St.okG (st_aloadn rfl d_293_788) (fun _ _ _ _ _ => rfl)
theorem ki_293_785 : js_OkG 293 785 (o_go 2851) := js_St.okG (st_goto (by decide) d_293_785) (fun _ _ _ _ _ => rfl)
theorem ki_293_784 : js_OkG 293 784 (o_rZ) := og_rZ d_293_784
theorem ki_293_814 : js_OkG 293 814 (o_cI 134 1 9 817) := og_cI (site_V kk_293_134 (by decide) kw_1285 kw_1286 kw_1287 (fun t ht => by cases ht; exact Or.inl ⟨_, rfl, rfl⟩) d_293_814) rfl rfl
theorem ki_293_813 : js_OkG 293 813 (o_al 2 814) := js_St.okG (st_aloadn rfl d_293_813) (fun _ _ _ _ _ => rfl)
theorem ki_293_811 : js_OkG 293 811 (o_is 7 813) := js_St.okG (st_istore (Nat.le_of_ble_eq_true rfl) d_293_811) (fun _ _ _ _ _ => rfl)
theorem ki_293_808 : js_OkG 293 808 (o_cI 172 2 9 811) := og_cI (site_V kk_293_172 (by decide) kw_1396 kw_1397 kw_1398 (fun t ht => by cases ht; exact Or.inl ⟨_, rfl, rfl⟩) d_293_808) rfl rfl
theorem ki_293_807 : js_OkG 293 807 (o_lI 100 808) := js_St.okG (st_lI d_293_807) (fun _ _ _ _ _ => rfl)
theorem ki_293_806 : js_OkG 293 806 (o_b2 (fun x y => x + y) 807) := js_St.okG (st_iadd d_293_806) (fun _ _ _ _ _ => rfl)
theorem ki_293_805 : js_OkG 293 805 (o_ic 1 806) := js_St.okG (st_iconst rfl d_293_805) (fun _ _ _ _ _ => rfl)
theorem ki_293_803 : js_OkG 293 803 (o_il 5 805) := js_St.okG (st_iload d_293_803) (fun _ _ _ _ _ => rfl)
theorem ki_293_802 : js_OkG 293 802 (o_al 0 803) := js_St.okG (st_aloadn rfl d_293_802) (fun _ _ _ _ _ => rfl)
theorem ki_293_801 : js_OkG 293 801 (o_al 2 802) := js_St.okG (st_aloadn rfl d_293_801) (fun _ _ _ _ _ => rfl)
theorem ki_293_831 : js_OkG 293 831 (o_lL 102 832) := js_St.okG (st_lL d_293_831) (fun _ _ _ _ _ => rfl)
theorem ki_293_830 : js_OkG 293 830 (o_ic 0 831) := js_St.okG (st_iconst rfl d_293_830) (fun _ _ _ _ _ => rfl)
theorem ki_293_829 : js_OkG 293 829 (o_al 3 830) := js_St.okG (st_aloadn rfl d_293_829) (fun _ _ _ _ _ => rfl)
theorem ki_293_826 : js_OkG 293 826 (o_ne 841 829) := js_St.okG (st_ifne (by decide) d_293_826) (fun _ _ _ _ _ => rfl)
theorem ki_293_824 : js_OkG 293 824 (o_il 6 826) := js_St.okG (st_iload d_293_824) (fun _ _ _ _ _ => rfl)
theorem ki_293_823 : js_OkG 293 823 (o_rZ) := og_rZ d_293_823
theorem ki_293_822 : js_OkG 293 822 (o_ic 0 823) := js_St.okG (st_iconst rfl d_293_822) (fun _ _ _ _ _ => rfl)
theorem ki_293_819 : js_OkG 293 819 (o_ceq 824 822) := js_St.okG (st_iceq (by decide) d_293_819) (fun _ _ _ _ _ => rfl)
theorem ki_293_817 : js_OkG 293 817 (o_il 6 819) := js_St.okG (st_iload d_293_817) (fun _ _ _ _ _ => rfl)
theorem ki_293_845 : js_OkG 293 845 (o_cI 71 1 8 848) := og_cI (site_V kk_293_71 (by decide) kw_332 kw_333 kw_334 (fun t ht => by cases ht; exact Or.inl ⟨_, rfl, rfl⟩) d_293_845) rfl rfl
theorem ki_293_844 : js_OkG 293 844 (o_al 1 845) := js_St.okG (st_aloadn rfl d_293_844) (fun _ _ _ _ _ => rfl)
theorem ki_293_841 : js_OkG 293 841 (o_go 2851) := js_St.okG (st_goto (by decide) d_293_841) (fun _ _ _ _ _ => rfl)
theorem ki_293_840 : js_OkG 293 840 (o_rZ) := og_rZ d_293_840
theorem ki_293_839 : js_OkG 293 839 (o_ic 0 840) := js_St.okG (st_iconst rfl d_293_839) (fun _ _ _ _ _ => rfl)
theorem ki_293_836 : js_OkG 293 836 (o_eq 841 839) := js_St.okG (st_ifeq (by decide) d_293_836) (fun _ _ _ _ _ => rfl)
theorem ki_293_835 : js_OkG 293 835 (o_lcmp 836) := js_St.okG (st_lcmp d_293_835) (fun _ _ _ _ _ => rfl)
theorem ki_293_834 : js_OkG 293 834 (o_i2l 835) := js_St.okG (st_i2l d_293_834) (fun _ _ _ _ _ => rfl)
theorem ki_293_832 : js_OkG 293 832 (o_il 7 834) := js_St.okG (st_iload d_293_832) (fun _ _ _ _ _ => rfl)
theorem ki_293_863 : js_OkG 293 863 (o_lI 100 864) := js_St.okG (st_lI d_293_863) (fun _ _ _ _ _ => rfl)
theorem ki_293_862 : js_OkG 293 862 (o_b2 (fun x y => x + y) 863) := js_St.okG (st_iadd d_293_862) (fun _ _ _ _ _ => rfl)
theorem ki_293_861 : js_OkG 293 861 (o_ic 1 862) := js_St.okG (st_iconst rfl d_293_861) (fun _ _ _ _ _ => rfl)
theorem ki_293_859 : js_OkG 293 859 (o_il 5 861) := js_St.okG (st_iload d_293_859) (fun _ _ _ _ _ => rfl)
theorem ki_293_858 : js_OkG 293 858 (o_al 0 859) := js_St.okG (st_aloadn rfl d_293_858) (fun _ _ _ _ _ => rfl)
theorem ki_293_857 : js_OkG 293 857 (o_al 1 858) := js_St.okG (st_aloadn rfl d_293_857) (fun _ _ _ _ _ => rfl)
theorem ki_293_856 : js_OkG 293 856 (o_rZ) := og_rZ d_293_856
theorem ki_293_855 : js_OkG 293 855 (o_ic 0 856) := js_St.okG (st_iconst rfl d_293_855) (fun _ _ _ _ _ => rfl)
theorem ki_293_852 : js_OkG 293 852 (o_ceq 2851 855) := js_St.okG (st_iceq (by decide) d_293_852) (fun _ _ _ _ _ => rfl)
theorem ki_293_849 : js_OkG 293 849 (o_cI 173 1 9 852) := og_cI (site_V kk_293_173 (by decide) kw_1404 kw_1405 kw_1406 (fun t ht => by cases ht; exact Or.inl ⟨_, rfl, rfl⟩) d_293_849) rfl rfl
theorem ki_293_848 : js_OkG 293 848 (o_al 2 849) := js_St.okG (st_aloadn rfl d_293_848) (fun _ _ _ _ _ => rfl)
theorem ki_293_877 : js_OkG 293 877 (o_cI 263 5 0 880) := og_sI kB_263 rfl kw_784 kw_785 d_293_877
theorem ki_293_876 : js_OkG 293 876 (o_al 3 877) := js_St.okG (st_aloadn rfl d_293_876) (fun _ _ _ _ _ => rfl)
theorem ki_293_875 : js_OkG 293 875 (o_lI 100 876) := js_St.okG (st_lI d_293_875) (fun _ _ _ _ _ => rfl)
theorem ki_293_874 : js_OkG 293 874 (o_b2 (fun x y => x + y) 875) := js_St.okG (st_iadd d_293_874) (fun _ _ _ _ _ => rfl)
theorem ki_293_873 : js_OkG 293 873 (o_ic 3 874) := js_St.okG (st_iconst rfl d_293_873) (fun _ _ _ _ _ => rfl)
theorem ki_293_871 : js_OkG 293 871 (o_il 5 873) := js_St.okG (st_iload d_293_871) (fun _ _ _ _ _ => rfl)
theorem ki_293_870 : js_OkG 293 870 (o_al 0 871) := js_St.okG (st_aloadn rfl d_293_870) (fun _ _ _ _ _ => rfl)
theorem ki_293_869 : js_OkG 293 869 (o_lI 100 870) := js_St.okG (st_lI d_293_869) (fun _ _ _ _ _ => rfl)
theorem ki_293_868 : js_OkG 293 868 (o_b2 (fun x y => x + y) 869) := js_St.okG (st_iadd d_293_868) (fun _ _ _ _ _ => rfl)
theorem ki_293_867 : js_OkG 293 867 (o_ic 2 868) := js_St.okG (st_iconst rfl d_293_867) (fun _ _ _ _ _ => rfl)
theorem ki_293_865 : js_OkG 293 865 (o_il 5 867) := js_St.okG (st_iload d_293_865) (fun _ _ _ _ _ => rfl)
theorem ki_293_864 : js_OkG 293 864 (o_al 0 865) := js_St.okG (st_aloadn rfl d_293_864) (fun _ _ _ _ _ => rfl)
theorem ki_293_895 : js_OkG 293 895 (o_al 0 896) := js_St.okG (st_aloadn rfl d_293_895) (fun _ _ _ _ _ => rfl)
theorem ki_293_894 : js_OkG 293 894 (o_lI 100 895) := js_St.okG (st_lI d_293_894) (fun _ _ _ _ _ => rfl)
theorem ki_293_893 : js_OkG 293 893 (o_b2 (fun x y => x + y) 894) := js_St.okG (st_iadd d_293_893) (fun _ _ _ _ _ => rfl)
theorem ki_293_892 : js_OkG 293 892 (o_ic 2 893) := js_St.okG (st_iconst rfl d_293_892) (fun _ _ _ _ _ => rfl)
theorem ki_293_890 : js_OkG 293 890 (o_il 5 892) := js_St.okG (st_iload d_293_890) (fun _ _ _ _ _ => rfl)
theorem ki_293_889 : js_OkG 293 889 (o_al 0 890) := js_St.okG (st_aloadn rfl d_293_889) (fun _ _ _ _ _ => rfl)
theorem ki_293_888 : js_OkG 293 888 (o_lI 100 889) := js_St.okG (st_lI d_293_888) (fun _ _ _ _ _ => rfl)
theorem ki_293_887 : js_OkG 293 887 (o_b2 (fun x y => x + y) 888) := js_St.okG (st_iadd d_293_887) (fun _ _ _ _ _ => rfl)
theorem ki_293_886 : js_OkG 293 886 (o_ic 1 887) := js_St.okG (st_iconst rfl d_293_886) (fun _ _ _ _ _ => rfl)
theorem ki_293_884 : js_OkG 293 884 (o_il 5 886) := js_St.okG (st_iload d_293_884) (fun _ _ _ _ _ => rfl)
theorem ki_293_883 : js_OkG 293 883 (o_al 0 884) := js_St.okG (st_aloadn rfl d_293_883) (fun _ _ _ _ _ => rfl)
theorem ki_293_882 : js_OkG 293 882 (o_al 2 883) := js_St.okG (st_aloadn rfl d_293_882) (fun _ _ _ _ _ => rfl)
theorem ki_293_880 : js_OkG 293 880 (o_is 6 882) := js_St.okG (st_istore (Nat.le_of_ble_eq_true rfl) d_293_880) (fun _ _ _ _ _ => rfl)
theorem ki_293_910 : js_OkG 293 910 (o_il 6 912) := js_St.okG (st_iload d_293_910) (fun _ _ _ _ _ => rfl)
theorem ki_293_907 : js_OkG 293 907 (o_cI 134 1 9 910) := og_cI (site_V kk_293_134 (by decide) kw_1285 kw_1286 kw_1287 (fun t ht => by cases ht; exact Or.inl ⟨_, rfl, rfl⟩) d_293_907) rfl rfl
theorem ki_293_906 : js_OkG 293 906 (o_al 2 907) := js_St.okG (st_aloadn rfl d_293_906) (fun _ _ _ _ _ => rfl)
theorem ki_293_904 : js_OkG 293 904 (o_is 7 906) := js_St.okG (st_istore (Nat.le_of_ble_eq_true rfl) d_293_904) (fun _ _ _ _ _ => rfl)
theorem ki_293_901 : js_OkG 293 901 (o_cI 176 4 9 904) := og_cI (site_V kk_293_176 (by decide) kw_1408 kw_1409 kw_1410 (fun t ht => by cases ht; exact Or.inl ⟨_, rfl, rfl⟩) d_293_901) rfl rfl
theorem ki_293_900 : js_OkG 293 900 (o_lI 100 901) := js_St.okG (st_lI d_293_900) (fun _ _ _ _ _ => rfl)
theorem ki_293_899 : js_OkG 293 899 (o_b2 (fun x y => x + y) 900) := js_St.okG (st_iadd d_293_899) (fun _ _ _ _ _ => rfl)
theorem ki_293_898 : js_OkG 293 898 (o_ic 3 899) := js_St.okG (st_iconst rfl d_293_898) (fun _ _ _ _ _ => rfl)
theorem ki_293_896 : js_OkG 293 896 (o_il 5 898) := js_St.okG (st_iload d_293_896) (fun _ _ _ _ _ => rfl)
theorem ki_293_927 : js_OkG 293 927 (o_i2l 928) := js_St.okG (st_i2l d_293_927) (fun _ _ _ _ _ => rfl)
theorem ki_293_925 : js_OkG 293 925 (o_il 7 927) := js_St.okG (st_iload d_293_925) (fun _ _ _ _ _ => rfl)
theorem ki_293_924 : js_OkG 293 924 (o_lL 102 925) := js_St.okG (st_lL d_293_924) (fun _ _ _ _ _ => rfl)
theorem ki_293_923 : js_OkG 293 923 (o_ic 0 924) := js_St.okG (st_iconst rfl d_293_923) (fun _ _ _ _ _ => rfl)
theorem ki_293_922 : js_OkG 293 922 (o_al 3 923) := js_St.okG (st_aloadn rfl d_293_922) (fun _ _ _ _ _ => rfl)
theorem ki_293_919 : js_OkG 293 919 (o_ne 934 922) := js_St.okG (st_ifne (by decide) d_293_919) (fun _ _ _ _ _ => rfl)
theorem ki_293_917 : js_OkG 293 917 (o_il 6 919) := js_St.okG (st_iload d_293_917) (fun _ _ _ _ _ => rfl)
theorem ki_293_916 : js_OkG 293 916 (o_rZ) := og_rZ d_293_916
theorem ki_293_915 : js_OkG 293 915 (o_ic 0 916) := js_St.okG (st_iconst rfl d_293_915) (fun _ _ _ _ _ => rfl)
theorem ki_293_912 : js_OkG 293 912 (o_ceq 917 915) := js_St.okG (st_iceq (by decide) d_293_912) (fun _ _ _ _ _ => rfl)
theorem ki_293_943 : js_OkG 293 943 (o_lI 100 944) := js_St.okG (st_lI d_293_943) (fun _ _ _ _ _ => rfl)
theorem ki_293_942 : js_OkG 293 942 (o_b2 (fun x y => x + y) 943) := js_St.okG (st_iadd d_293_942) (fun _ _ _ _ _ => rfl)
theorem ki_293_941 : js_OkG 293 941 (o_ic 1 942) := js_St.okG (st_iconst rfl d_293_941) (fun _ _ _ _ _ => rfl)
theorem ki_293_939 : js_OkG 293 939 (o_il 5 941) := js_St.okG (st_iload d_293_939) (fun _ _ _ _ _ => rfl)
theorem ki_293_938 : js_OkG 293 938 (o_al 0 939) := js_St.okG (st_aloadn rfl d_293_938) (fun _ _ _ _ _ => rfl)
theorem ki_293_937 : js_OkG 293 937 (o_al 1 938) := js_St.okG (st_aloadn rfl d_293_937) (fun _ _ _ _ _ => rfl)
theorem ki_293_934 : js_OkG 293 934 (o_go 2851) := js_St.okG (st_goto (by decide) d_293_934) (fun _ _ _ _ _ => rfl)
theorem ki_293_933 : js_OkG 293 933 (o_rZ) := og_rZ d_293_933
theorem ki_293_932 : js_OkG 293 932 (o_ic 0 933) := js_St.okG (st_iconst rfl d_293_932) (fun _ _ _ _ _ => rfl)
theorem ki_293_929 : js_OkG 293 929 (o_eq 934 932) := js_St.okG (st_ifeq (by decide) d_293_929) (fun _ _ _ _ _ => rfl)
theorem ki_293_928 : js_OkG 293 928 (o_lcmp 929) := js_St.okG (st_lcmp d_293_928) (fun _ _ _ _ _ => rfl)
theorem ki_293_957 : js_OkG 293 957 (o_cI 178 2 9 960) := og_cI (site_V kk_293_178 (by decide) kw_1442 kw_1443 kw_1444 (fun t ht => by cases ht; exact Or.inl ⟨_, rfl, rfl⟩) d_293_957) rfl rfl
theorem ki_293_956 : js_OkG 293 956 (o_lI 100 957) := js_St.okG (st_lI d_293_956) (fun _ _ _ _ _ => rfl)
theorem ki_293_955 : js_OkG 293 955 (o_b2 (fun x y => x + y) 956) := js_St.okG (st_iadd d_293_955) (fun _ _ _ _ _ => rfl)
theorem ki_293_954 : js_OkG 293 954 (o_ic 1 955) := js_St.okG (st_iconst rfl d_293_954) (fun _ _ _ _ _ => rfl)
theorem ki_293_952 : js_OkG 293 952 (o_il 5 954) := js_St.okG (st_iload d_293_952) (fun _ _ _ _ _ => rfl)
theorem ki_293_951 : js_OkG 293 951 (o_al 0 952) := js_St.okG (st_aloadn rfl d_293_951) (fun _ _ _ _ _ => rfl)
theorem ki_293_950 : js_OkG 293 950 (o_al 2 951) := js_St.okG (st_aloadn rfl d_293_950) (fun _ _ _ _ _ => rfl)
theorem ki_293_948 : js_OkG 293 948 (o_is 6 950) := js_St.okG (st_istore (Nat.le_of_ble_eq_true rfl) d_293_948) (fun _ _ _ _ _ => rfl)
theorem ki_293_945 : js_OkG 293 945 (o_cI 264 3 0 948) := og_sI kB_264 rfl kw_801 kw_802 d_293_945
theorem ki_293_944 : js_OkG 293 944 (o_al 3 945) := js_St.okG (st_aloadn rfl d_293_944) (fun _ _ _ _ _ => rfl)
theorem ki_293_975 : js_OkG 293 975 (o_ne 990 978) := js_St.okG (st_ifne (by decide) d_293_975) (fun _ _ _ _ _ => rfl)
theorem ki_293_973 : js_OkG 293 973 (o_il 6 975) := js_St.okG (st_iload d_293_973) (fun _ _ _ _ _ => rfl)
theorem ki_293_972 : js_OkG 293 972 (o_rZ) := og_rZ d_293_972
theorem ki_293_971 : js_OkG 293 971 (o_ic 0 972) := js_St.okG (st_iconst rfl d_293_971) (fun _ _ _ _ _ => rfl)
theorem ki_293_968 : js_OkG 293 968 (o_ceq 973 971) := js_St.okG (st_iceq (by decide) d_293_968) (fun _ _ _ _ _ => rfl)
theorem ki_293_966 : js_OkG 293 966 (o_il 6 968) := js_St.okG (st_iload d_293_966) (fun _ _ _ _ _ => rfl)
theorem ki_293_963 : js_OkG 293 963 (o_cI 134 1 9 966) := og_cI (site_V kk_293_134 (by decide) kw_1285 kw_1286 kw_1287 (fun t ht => by cases ht; exact Or.inl ⟨_, rfl, rfl⟩) d_293_963) rfl rfl
theorem ki_293_962 : js_OkG 293 962 (o_al 2 963) := js_St.okG (st_aloadn rfl d_293_962) (fun _ _ _ _ _ => rfl)
theorem ki_293_960 : js_OkG 293 960 (o_is 7 962) := js_St.okG (st_istore (Nat.le_of_ble_eq_true rfl) d_293_960) (fun _ _ _ _ _ => rfl)
theorem ki_293_990 : js_OkG 293 990 (o_go 2851) := js_St.okG (st_goto (by decide) d_293_990) (fun _ _ _ _ _ => rfl)
theorem ki_293_989 : js_OkG 293 989 (o_rZ) := og_rZ d_293_989
theorem ki_293_988 : js_OkG 293 988 (o_ic 0 989) := js_St.okG (st_iconst rfl d_293_988) (fun _ _ _ _ _ => rfl)
theorem ki_293_985 : js_OkG 293 985 (o_eq 990 988) := js_St.okG (st_ifeq (by decide) d_293_985) (fun _ _ _ _ _ => rfl)
theorem ki_293_984 : js_OkG 293 984 (o_lcmp 985) := js_St.okG (st_lcmp d_293_984) (fun _ _ _ _ _ => rfl)
theorem ki_293_983 : js_OkG 293 983 (o_i2l 984) := js_St.okG (st_i2l d_293_983) (fun _ _ _ _ _ => rfl)
theorem ki_293_981 : js_OkG 293 981 (o_il 7 983) := js_St.okG (st_iload d_293_981) (fun _ _ _ _ _ => rfl)
theorem ki_293_980 : js_OkG 293 980 (o_lL 102 981) := js_St.okG (st_lL d_293_980) (fun _ _ _ _ _ => rfl)
theorem ki_293_979 : js_OkG 293 979 (o_ic 0 980) := js_St.okG (st_iconst rfl d_293_979) (fun _ _ _ _ _ => rfl)
theorem ki_293_978 : js_OkG 293 978 (o_al 3 979) := js_St.okG (st_aloadn rfl d_293_978) (fun _ _ _ _ _ => rfl)
theorem ki_293_1007 : js_OkG 293 1007 (o_cI 265 4 0 1010) := og_sI kB_265 rfl kw_812 kw_813 d_293_1007
theorem ki_293_1006 : js_OkG 293 1006 (o_al 3 1007) := js_St.okG (st_aloadn rfl d_293_1006) (fun _ _ _ _ _ => rfl)
theorem ki_293_1005 : js_OkG 293 1005 (o_lI 100 1006) := js_St.okG (st_lI d_293_1005) (fun _ _ _ _ _ => rfl)
theorem ki_293_1004 : js_OkG 293 1004 (o_b2 (fun x y => x + y) 1005) := js_St.okG (st_iadd d_293_1004) (fun _ _ _ _ _ => rfl)
theorem ki_293_1003 : js_OkG 293 1003 (o_ic 2 1004) := js_St.okG (st_iconst rfl d_293_1003) (fun _ _ _ _ _ => rfl)
theorem ki_293_1001 : js_OkG 293 1001 (o_il 5 1003) := js_St.okG (st_iload d_293_1001) (fun _ _ _ _ _ => rfl)
theorem ki_293_1000 : js_OkG 293 1000 (o_al 0 1001) := js_St.okG (st_aloadn rfl d_293_1000) (fun _ _ _ _ _ => rfl)
theorem ki_293_999 : js_OkG 293 999 (o_lI 100 1000) := js_St.okG (st_lI d_293_999) (fun _ _ _ _ _ => rfl)
theorem ki_293_998 : js_OkG 293 998 (o_b2 (fun x y => x + y) 999) := js_St.okG (st_iadd d_293_998) (fun _ _ _ _ _ => rfl)
theorem ki_293_997 : js_OkG 293 997 (o_ic 1 998) := js_St.okG (st_iconst rfl d_293_997) (fun _ _ _ _ _ => rfl)
theorem ki_293_995 : js_OkG 293 995 (o_il 5 997) := js_St.okG (st_iload d_293_995) (fun _ _ _ _ _ => rfl)
theorem ki_293_994 : js_OkG 293 994 (o_al 0 995) := js_St.okG (st_aloadn rfl d_293_994) (fun _ _ _ _ _ => rfl)
theorem ki_293_993 : js_OkG 293 993 (o_al 1 994) := js_St.okG (st_aloadn rfl d_293_993) (fun _ _ _ _ _ => rfl)
theorem ki_293_1023 : js_OkG 293 1023 (o_b2 (fun x y => x + y) 1024) := js_St.okG (st_iadd d_293_1023) (fun _ _ _ _ _ => rfl)
theorem ki_293_1022 : js_OkG 293 1022 (o_ic 2 1023) := js_St.okG (st_iconst rfl d_293_1022) (fun _ _ _ _ _ => rfl)
theorem ki_293_1020 : js_OkG 293 1020 (o_il 5 1022) := js_St.okG (st_iload d_293_1020) (fun _ _ _ _ _ => rfl)
theorem ki_293_1019 : js_OkG 293 1019 (o_al 0 1020) := js_St.okG (st_aloadn rfl d_293_1019) (fun _ _ _ _ _ => rfl)
theorem ki_293_1018 : js_OkG 293 1018 (o_lI 100 1019) := js_St.okG (st_lI d_293_1018) (fun _ _ _ _ _ => rfl)
theorem ki_293_1017 : js_OkG 293 1017 (o_b2 (fun x y => x + y) 1018) := js_St.okG (st_iadd d_293_1017) (fun _ _ _ _ _ => rfl)
theorem ki_293_1016 : js_OkG 293 1016 (o_ic 1 1017) := js_St.okG (st_iconst rfl d_293_1016) (fun _ _ _ _ _ => rfl)
theorem ki_293_1014 : js_OkG 293 1014 (o_il 5 1016) := js_St.okG (st_iload d_293_1014) (fun _ _ _ _ _ => rfl)
theorem ki_293_1013 : js_OkG 293 1013 (o_al 0 1014) := js_St.okG (st_aloadn rfl d_293_1013) (fun _ _ _ _ _ => rfl)
theorem ki_293_1012 : js_OkG 293 1012 (o_al 2 1013) := js_St.okG (st_aloadn rfl d_293_1012) (fun _ _ _ _ _ => rfl)
theorem ki_293_1010 : js_OkG 293 1010 (o_is 6 1012) := js_St.okG (st_istore (Nat.le_of_ble_eq_true rfl) d_293_1010) (fun _ _ _ _ _ => rfl)
theorem ki_293_1039 : js_OkG 293 1039 (o_ic 0 1040) := js_St.okG (st_iconst rfl d_293_1039) (fun _ _ _ _ _ => rfl)
theorem ki_293_1036 : js_OkG 293 1036 (o_ceq 1041 1039) := js_St.okG (st_iceq (by decide) d_293_1036) (fun _ _ _ _ _ => rfl)
theorem ki_293_1034 : js_OkG 293 1034 (o_il 6 1036) := js_St.okG (st_iload d_293_1034) (fun _ _ _ _ _ => rfl)
theorem ki_293_1031 : js_OkG 293 1031 (o_cI 134 1 9 1034) := og_cI (site_V kk_293_134 (by decide) kw_1285 kw_1286 kw_1287 (fun t ht => by cases ht; exact Or.inl ⟨_, rfl, rfl⟩) d_293_1031) rfl rfl
theorem ki_293_1030 : js_OkG 293 1030 (o_al 2 1031) := js_St.okG (st_aloadn rfl d_293_1030) (fun _ _ _ _ _ => rfl)
theorem ki_293_1028 : js_OkG 293 1028 (o_is 7 1030) := js_St.okG (st_istore (Nat.le_of_ble_eq_true rfl) d_293_1028) (fun _ _ _ _ _ => rfl)
theorem ki_293_1025 : js_OkG 293 1025 (o_cI 180 3 9 1028) := og_cI (site_V kk_293_180 (by decide) kw_1450 kw_1451 kw_1452 (fun t ht => by cases ht; exact Or.inl ⟨_, rfl, rfl⟩) d_293_1025) rfl rfl
theorem ki_293_1024 : js_OkG 293 1024 (o_lI 100 1025) := js_St.okG (st_lI d_293_1024) (fun _ _ _ _ _ => rfl)
theorem ki_293_1053 : js_OkG 293 1053 (o_eq 1058 1056) := js_St.okG (st_ifeq (by decide) d_293_1053) (fun _ _ _ _ _ => rfl)
theorem ki_293_1052 : js_OkG 293 1052 (o_lcmp 1053) := js_St.okG (st_lcmp d_293_1052) (fun _ _ _ _ _ => rfl)
theorem ki_293_1051 : js_OkG 293 1051 (o_i2l 1052) := js_St.okG (st_i2l d_293_1051) (fun _ _ _ _ _ => rfl)
theorem ki_293_1049 : js_OkG 293 1049 (o_il 7 1051) := js_St.okG (st_iload d_293_1049) (fun _ _ _ _ _ => rfl)
theorem ki_293_1048 : js_OkG 293 1048 (o_lL 102 1049) := js_St.okG (st_lL d_293_1048) (fun _ _ _ _ _ => rfl)
theorem ki_293_1047 : js_OkG 293 1047 (o_ic 0 1048) := js_St.okG (st_iconst rfl d_293_1047) (fun _ _ _ _ _ => rfl)
theorem ki_293_1046 : js_OkG 293 1046 (o_al 3 1047) := js_St.okG (st_aloadn rfl d_293_1046) (fun _ _ _ _ _ => rfl)
theorem ki_293_1043 : js_OkG 293 1043 (o_ne 1058 1046) := js_St.okG (st_ifne (by decide) d_293_1043) (fun _ _ _ _ _ => rfl)
theorem ki_293_1041 : js_OkG 293 1041 (o_il 6 1043) := js_St.okG (st_iload d_293_1041) (fun _ _ _ _ _ => rfl)
theorem ki_293_1040 : js_OkG 293 1040 (o_rZ) := og_rZ d_293_1040
theorem ki_293_1071 : js_OkG 293 1071 (o_ic 2 1072) := js_St.okG (st_iconst rfl d_293_1071) (fun _ _ _ _ _ => rfl)
theorem ki_293_1069 : js_OkG 293 1069 (o_il 5 1071) := js_St.okG (st_iload d_293_1069) (fun _ _ _ _ _ => rfl)
theorem ki_293_1068 : js_OkG 293 1068 (o_al 0 1069) := js_St.okG (st_aloadn rfl d_293_1068) (fun _ _ _ _ _ => rfl)
theorem ki_293_1067 : js_OkG 293 1067 (o_lI 100 1068) := js_St.okG (st_lI d_293_1067) (fun _ _ _ _ _ => rfl)
theorem ki_293_1066 : js_OkG 293 1066 (o_b2 (fun x y => x + y) 1067) := js_St.okG (st_iadd d_293_1066) (fun _ _ _ _ _ => rfl)
theorem ki_293_1065 : js_OkG 293 1065 (o_ic 1 1066) := js_St.okG (st_iconst rfl d_293_1065) (fun _ _ _ _ _ => rfl)
theorem ki_293_1063 : js_OkG 293 1063 (o_il 5 1065) := js_St.okG (st_iload d_293_1063) (fun _ _ _ _ _ => rfl)
theorem ki_293_1062 : js_OkG 293 1062 (o_al 0 1063) := js_St.okG (st_aloadn rfl d_293_1062) (fun _ _ _ _ _ => rfl)
theorem ki_293_1061 : js_OkG 293 1061 (o_al 1 1062) := js_St.okG (st_aloadn rfl d_293_1061) (fun _ _ _ _ _ => rfl)
theorem ki_293_1058 : js_OkG 293 1058 (o_go 2851) := js_St.okG (st_goto (by decide) d_293_1058) (fun _ _ _ _ _ => rfl)
theorem ki_293_1057 : js_OkG 293 1057 (o_rZ) := og_rZ d_293_1057
theorem ki_293_1056 : js_OkG 293 1056 (o_ic 0 1057) := js_St.okG (st_iconst rfl d_293_1056) (fun _ _ _ _ _ => rfl)
theorem ki_293_1087 : js_OkG 293 1087 (o_al 0 1088) := js_St.okG (st_aloadn rfl d_293_1087) (fun _ _ _ _ _ => rfl)
theorem ki_293_1086 : js_OkG 293 1086 (o_lI 100 1087) := js_St.okG (st_lI d_293_1086) (fun _ _ _ _ _ => rfl)
theorem ki_293_1085 : js_OkG 293 1085 (o_b2 (fun x y => x + y) 1086) := js_St.okG (st_iadd d_293_1085) (fun _ _ _ _ _ => rfl)
theorem ki_293_1084 : js_OkG 293 1084 (o_ic 1 1085) := js_St.okG (st_iconst rfl d_293_1084) (fun _ _ _ _ _ => rfl)
theorem ki_293_1082 : js_OkG 293 1082 (o_il 5 1084) := js_St.okG (st_iload d_293_1082) (fun _ _ _ _ _ => rfl)
theorem ki_293_1081 : js_OkG 293 1081 (o_al 0 1082) := js_St.okG (st_aloadn rfl d_293_1081) (fun _ _ _ _ _ => rfl)
theorem ki_293_1080 : js_OkG 293 1080 (o_al 2 1081) := js_St.okG (st_aloadn rfl d_293_1080) (fun _ _ _ _ _ => rfl)
theorem ki_293_1078 : js_OkG 293 1078 (o_is 6 1080) := js_St.okG (st_istore (Nat.le_of_ble_eq_true rfl) d_293_1078) (fun _ _ _ _ _ => rfl)
theorem ki_293_1075 : js_OkG 293 1075 (o_cI 266 4 0 1078) := og_sI kB_266 rfl kw_823 kw_824 d_293_1075
theorem ki_293_1074 : js_OkG 293 1074 (o_al 3 1075) := js_St.okG (st_aloadn rfl d_293_1074) (fun _ _ _ _ _ => rfl)
theorem ki_293_1073 : js_OkG 293 1073 (o_lI 100 1074) := js_St.okG (st_lI d_293_1073) (fun _ _ _ _ _ => rfl)
theorem ki_293_1072 : js_OkG 293 1072 (o_b2 (fun x y => x + y) 1073) := js_St.okG (st_iadd d_293_1072) (fun _ _ _ _ _ => rfl)
theorem ki_293_1102 : js_OkG 293 1102 (o_il 6 1104) := js_St.okG (st_iload d_293_1102) (fun _ _ _ _ _ => rfl)
theorem ki_293_1099 : js_OkG 293 1099 (o_cI 134 1 9 1102) := og_cI (site_V kk_293_134 (by decide) kw_1285 kw_1286 kw_1287 (fun t ht => by cases ht; exact Or.inl ⟨_, rfl, rfl⟩) d_293_1099) rfl rfl
theorem ki_293_1098 : js_OkG 293 1098 (o_al 2 1099) := js_St.okG (st_aloadn rfl d_293_1098) (fun _ _ _ _ _ => rfl)
theorem ki_293_1096 : js_OkG 293 1096 (o_is 7 1098) := js_St.okG (st_istore (Nat.le_of_ble_eq_true rfl) d_293_1096) (fun _ _ _ _ _ => rfl)
theorem ki_293_1093 : js_OkG 293 1093 (o_cI 182 3 9 1096) := og_cI (site_V kk_293_182 (by decide) kw_1458 kw_1459 kw_1460 (fun t ht => by cases ht; exact Or.inl ⟨_, rfl, rfl⟩) d_293_1093) rfl rfl
theorem ki_293_1092 : js_OkG 293 1092 (o_lI 100 1093) := js_St.okG (st_lI d_293_1092) (fun _ _ _ _ _ => rfl)
theorem ki_293_1091 : js_OkG 293 1091 (o_b2 (fun x y => x + y) 1092) := js_St.okG (st_iadd d_293_1091) (fun _ _ _ _ _ => rfl)
theorem ki_293_1090 : js_OkG 293 1090 (o_ic 2 1091) := js_St.okG (st_iconst rfl d_293_1090) (fun _ _ _ _ _ => rfl)
theorem ki_293_1088 : js_OkG 293 1088 (o_il 5 1090) := js_St.okG (st_iload d_293_1088) (fun _ _ _ _ _ => rfl)
theorem ki_293_1119 : js_OkG 293 1119 (o_i2l 1120) := js_St.okG (st_i2l d_293_1119) (fun _ _ _ _ _ => rfl)
theorem ki_293_1117 : js_OkG 293 1117 (o_il 7 1119) := js_St.okG (st_iload d_293_1117) (fun _ _ _ _ _ => rfl)
theorem ki_293_1116 : js_OkG 293 1116 (o_lL 102 1117) := js_St.okG (st_lL d_293_1116) (fun _ _ _ _ _ => rfl)
theorem ki_293_1115 : js_OkG 293 1115 (o_ic 0 1116) := js_St.okG (st_iconst rfl d_293_1115) (fun _ _ _ _ _ => rfl)
theorem ki_293_1114 : js_OkG 293 1114 (o_al 3 1115) := js_St.okG (st_aloadn rfl d_293_1114) (fun _ _ _ _ _ => rfl)
theorem ki_293_1111 : js_OkG 293 1111 (o_ne 1126 1114) := js_St.okG (st_ifne (by decide) d_293_1111) (fun _ _ _ _ _ => rfl)
theorem ki_293_1109 : js_OkG 293 1109 (o_il 6 1111) := js_St.okG (st_iload d_293_1109) (fun _ _ _ _ _ => rfl)
theorem ki_293_1108 : js_OkG 293 1108 (o_rZ) := og_rZ d_293_1108
theorem ki_293_1107 : js_OkG 293 1107 (o_ic 0 1108) := js_St.okG (st_iconst rfl d_293_1107) (fun _ _ _ _ _ => rfl)
theorem ki_293_1104 : js_OkG 293 1104 (o_ceq 1109 1107) := js_St.okG (st_iceq (by decide) d_293_1104) (fun _ _ _ _ _ => rfl)
theorem ki_293_1135 : js_OkG 293 1135 (o_lI 100 1136) := js_St.okG (st_lI d_293_1135) (fun _ _ _ _ _ => rfl)
theorem ki_293_1134 : js_OkG 293 1134 (o_b2 (fun x y => x + y) 1135) := js_St.okG (st_iadd d_293_1134) (fun _ _ _ _ _ => rfl)
theorem ki_293_1133 : js_OkG 293 1133 (o_ic 1 1134) := js_St.okG (st_iconst rfl d_293_1133) (fun _ _ _ _ _ => rfl)
theorem ki_293_1131 : js_OkG 293 1131 (o_il 5 1133) := js_St.okG (st_iload d_293_1131) (fun _ _ _ _ _ => rfl)
theorem ki_293_1130 : js_OkG 293 1130 (o_al 0 1131) := js_St.okG (st_aloadn rfl d_293_1130) (fun _ _ _ _ _ => rfl)
theorem ki_293_1129 : js_OkG 293 1129 (o_al 1 1130) := js_St.okG (st_aloadn rfl d_293_1129) (fun _ _ _ _ _ => rfl)
theorem ki_293_1126 : js_OkG 293 1126 (o_go 2851) := js_St.okG (st_goto (by decide) d_293_1126) (fun _ _ _ _ _ => rfl)
theorem ki_293_1125 : js_OkG 293 1125 (o_rZ) := og_rZ d_293_1125
theorem ki_293_1124 : js_OkG 293 1124 (o_ic 0 1125) := js_St.okG (st_iconst rfl d_293_1124) (fun _ _ _ _ _ => rfl)
theorem ki_293_1121 : js_OkG 293 1121 (o_eq 1126 1124) := js_St.okG (st_ifeq (by decide) d_293_1121) (fun _ _ _ _ _ => rfl)
theorem ki_293_1120 : js_OkG 293 1120 (o_lcmp 1121) := js_St.okG (st_lcmp d_293_1120) (fun _ _ _ _ _ => rfl)
theorem ki_293_1150 : js_OkG 293 1150 (o_il 5 1152) := js_St.okG (st_iload d_293_1150) (fun _ _ _ _ _ => rfl)
theorem ki_293_1149 : js_OkG 293 1149 (o_al 0 1150) := js_St.okG (st_aloadn rfl d_293_1149) (fun _ _ _ _ _ => rfl)
theorem ki_293_1148 : js_OkG 293 1148 (o_al 2 1149) := js_St.okG (st_aloadn rfl d_293_1148) (fun _ _ _ _ _ => rfl)
theorem ki_293_1146 : js_OkG 293 1146 (o_is 6 1148) := js_St.okG (st_istore (Nat.le_of_ble_eq_true rfl) d_293_1146) (fun _ _ _ _ _ => rfl)
theorem ki_293_1143 : js_OkG 293 1143 (o_cI 267 4 0 1146) := og_sI kB_267 rfl kw_835 kw_836 d_293_1143
theorem ki_293_1142 : js_OkG 293 1142 (o_al 3 1143) := js_St.okG (st_aloadn rfl d_293_1142) (fun _ _ _ _ _ => rfl)
theorem ki_293_1141 : js_OkG 293 1141 (o_lI 100 1142) := js_St.okG (st_lI d_293_1141) (fun _ _ _ _ _ => rfl)
theorem ki_293_1140 : js_OkG 293 1140 (o_b2 (fun x y => x + y) 1141) := js_St.okG (st_iadd d_293_1140) (fun _ _ _ _ _ => rfl)
theorem ki_293_1139 : js_OkG 293 1139 (o_ic 2 1140) := js_St.okG (st_iconst rfl d_293_1139) (fun _ _ _ _ _ => rfl)
theorem ki_293_1137 : js_OkG 293 1137 (o_il 5 1139) := js_St.okG (st_iload d_293_1137) (fun _ _ _ _ _ => rfl)
theorem ki_293_1136 : js_OkG 293 1136 (o_al 0 1137) := js_St.okG (st_aloadn rfl d_293_1136) (fun _ _ _ _ _ => rfl)
theorem ki_293_1167 : js_OkG 293 1167 (o_cI 134 1 9 1170) := og_cI (site_V kk_293_134 (by decide) kw_1285 kw_1286 kw_1287 (fun t ht => by cases ht; exact Or.inl ⟨_, rfl, rfl⟩) d_293_1167) rfl rfl
theorem ki_293_1166 : js_OkG 293 1166 (o_al 2 1167) := js_St.okG (st_aloadn rfl d_293_1166) (fun _ _ _ _ _ => rfl)
theorem ki_293_1164 : js_OkG 293 1164 (o_is 7 1166) := js_St.okG (st_istore (Nat.le_of_ble_eq_true rfl) d_293_1164) (fun _ _ _ _ _ => rfl)
theorem ki_293_1161 : js_OkG 293 1161 (o_cI 191 3 9 1164) := og_cI (site_V kk_293_191 (by decide) kw_1470 kw_1471 kw_1472 (fun t ht => by cases ht; exact Or.inl ⟨_, rfl, rfl⟩) d_293_1161) rfl rfl
theorem ki_293_1160 : js_OkG 293 1160 (o_lI 100 1161) := js_St.okG (st_lI d_293_1160) (fun _ _ _ _ _ => rfl)
theorem ki_293_1159 : js_OkG 293 1159 (o_b2 (fun x y => x + y) 1160) := js_St.okG (st_iadd d_293_1159) (fun _ _ _ _ _ => rfl)
theorem ki_293_1158 : js_OkG 293 1158 (o_ic 2 1159) := js_St.okG (st_iconst rfl d_293_1158) (fun _ _ _ _ _ => rfl)
theorem ki_293_1156 : js_OkG 293 1156 (o_il 5 1158) := js_St.okG (st_iload d_293_1156) (fun _ _ _ _ _ => rfl)
theorem ki_293_1155 : js_OkG 293 1155 (o_al 0 1156) := js_St.okG (st_aloadn rfl d_293_1155) (fun _ _ _ _ _ => rfl)
theorem ki_293_1154 : js_OkG 293 1154 (o_lI 100 1155) := js_St.okG (st_lI d_293_1154) (fun _ _ _ _ _ => rfl)
theorem ki_293_1153 : js_OkG 293 1153 (o_b2 (fun x y => x + y) 1154) := js_St.okG (st_iadd d_293_1153) (fun _ _ _ _ _ => rfl)
theorem ki_293_1152 : js_OkG 293 1152 (o_ic 1 1153) := js_St.okG (st_iconst rfl d_293_1152) (fun _ _ _ _ _ => rfl)
theorem ki_293_1183 : js_OkG 293 1183 (o_ic 0 1184) := js_St.okG (st_iconst rfl d_293_1183) (fun _ _ _ _ _ => rfl)
theorem ki_293_1182 : js_OkG 293 1182 (o_al 3 1183) := js_St.okG (st_aloadn rfl d_293_1182) (fun _ _ _ _ _ => rfl)
theorem ki_293_1179 : js_OkG 293 1179 (o_ne 1194 1182) := js_St.okG (st_ifne (by decide) d_293_1179) (fun _ _ _ _ _ => rfl)
theorem ki_293_1177 : js_OkG 293 1177 (o_il 6 1179) := js_St.okG (st_iload d_293_1177) (fun _ _ _ _ _ => rfl)
theorem ki_293_1176 : js_OkG 293 1176 (o_rZ) := og_rZ d_293_1176
theorem ki_293_1175 : js_OkG 293 1175 (o_ic 0 1176) := js_St.okG (st_iconst rfl d_293_1175) (fun _ _ _ _ _ => rfl)
theorem ki_293_1172 : js_OkG 293 1172 (o_ceq 1177 1175) := js_St.okG (st_iceq (by decide) d_293_1172) (fun _ _ _ _ _ => rfl)
theorem ki_293_1170 : js_OkG 293 1170 (o_il 6 1172) := js_St.okG (st_iload d_293_1170) (fun _ _ _ _ _ => rfl)
theorem ki_293_1198 : js_OkG 293 1198 (o_cI 77 1 8 1201) := og_cI (site_V kk_293_77 (by decide) kw_346 kw_347 kw_348 (fun t ht => by cases ht; exact Or.inl ⟨_, rfl, rfl⟩) d_293_1198) rfl rfl
theorem ki_293_1197 : js_OkG 293 1197 (o_al 1 1198) := js_St.okG (st_aloadn rfl d_293_1197) (fun _ _ _ _ _ => rfl)
theorem ki_293_1194 : js_OkG 293 1194 (o_go 2851) := js_St.okG (st_goto (by decide) d_293_1194) (fun _ _ _ _ _ => rfl)
theorem ki_293_1193 : js_OkG 293 1193 (o_rZ) := og_rZ d_293_1193
theorem ki_293_1192 : js_OkG 293 1192 (o_ic 0 1193) := js_St.okG (st_iconst rfl d_293_1192) (fun _ _ _ _ _ => rfl)
theorem ki_293_1189 : js_OkG 293 1189 (o_eq 1194 1192) := js_St.okG (st_ifeq (by decide) d_293_1189) (fun _ _ _ _ _ => rfl)
theorem ki_293_1188 : js_OkG 293 1188 (o_lcmp 1189) := js_St.okG (st_lcmp d_293_1188) (fun _ _ _ _ _ => rfl)
theorem ki_293_1187 : js_OkG 293 1187 (o_i2l 1188) := js_St.okG (st_i2l d_293_1187) (fun _ _ _ _ _ => rfl)
theorem ki_293_1185 : js_OkG 293 1185 (o_il 7 1187) := js_St.okG (st_iload d_293_1185) (fun _ _ _ _ _ => rfl)
theorem ki_293_1184 : js_OkG 293 1184 (o_lL 102 1185) := js_St.okG (st_lL d_293_1184) (fun _ _ _ _ _ => rfl)
theorem ki_293_1215 : js_OkG 293 1215 (o_b2 (fun x y => x + y) 1216) := js_St.okG (st_iadd d_293_1215) (fun _ _ _ _ _ => rfl)
theorem ki_293_1214 : js_OkG 293 1214 (o_ic 1 1215) := js_St.okG (st_iconst rfl d_293_1214) (fun _ _ _ _ _ => rfl)
theorem ki_293_1212 : js_OkG 293 1212 (o_il 5 1214) := js_St.okG (st_iload d_293_1212) (fun _ _ _ _ _ => rfl)
theorem ki_293_1211 : js_OkG 293 1211 (o_al 0 1212) := js_St.okG (st_aloadn rfl d_293_1211) (fun _ _ _ _ _ => rfl)
theorem ki_293_1210 : js_OkG 293 1210 (o_al 1 1211) := js_St.okG (st_aloadn rfl d_293_1210) (fun _ _ _ _ _ => rfl)
theorem ki_293_1209 : js_OkG 293 1209 (o_rZ) := og_rZ d_293_1209
theorem ki_293_1208 : js_OkG 293 1208 (o_ic 0 1209) := js_St.okG (st_iconst rfl d_293_1208) (fun _ _ _ _ _ => rfl)
theorem ki_293_1205 : js_OkG 293 1205 (o_ceq 2851 1208) := js_St.okG (st_iceq (by decide) d_293_1205) (fun _ _ _ _ _ => rfl)
theorem ki_293_1202 : js_OkG 293 1202 (o_cI 194 1 9 1205) := og_cI (site_V kk_293_194 (by decide) kw_1514 kw_1515 kw_1516 (fun t ht => by cases ht; exact Or.inl ⟨_, rfl, rfl⟩) d_293_1202) rfl rfl
theorem ki_293_1201 : js_OkG 293 1201 (o_al 2 1202) := js_St.okG (st_aloadn rfl d_293_1201) (fun _ _ _ _ _ => rfl)
theorem ki_293_1231 : js_OkG 293 1231 (o_il 5 1233) := js_St.okG (st_iload d_293_1231) (fun _ _ _ _ _ => rfl)
theorem ki_293_1230 : js_OkG 293 1230 (o_al 0 1231) := js_St.okG (st_aloadn rfl d_293_1230) (fun _ _ _ _ _ => rfl)
theorem ki_293_1229 : js_OkG 293 1229 (o_al 2 1230) := js_St.okG (st_aloadn rfl d_293_1229) (fun _ _ _ _ _ => rfl)
theorem ki_293_1227 : js_OkG 293 1227 (o_is 6 1229) := js_St.okG (st_istore (Nat.le_of_ble_eq_true rfl) d_293_1227) (fun _ _ _ _ _ => rfl)
theorem ki_293_1224 : js_OkG 293 1224 (o_cI 268 4 0 1227) := og_sI kB_268 rfl kw_878 kw_879 d_293_1224
theorem ki_293_1223 : js_OkG 293 1223 (o_al 3 1224) := js_St.okG (st_aloadn rfl d_293_1223) (fun _ _ _ _ _ => rfl)
theorem ki_293_1222 : js_OkG 293 1222 (o_lI 100 1223) := js_St.okG (st_lI d_293_1222) (fun _ _ _ _ _ => rfl)
theorem ki_293_1221 : js_OkG 293 1221 (o_b2 (fun x y => x + y) 1222) := js_St.okG (st_iadd d_293_1221) (fun _ _ _ _ _ => rfl)
theorem ki_293_1220 : js_OkG 293 1220 (o_ic 2 1221) := js_St.okG (st_iconst rfl d_293_1220) (fun _ _ _ _ _ => rfl)
theorem ki_293_1218 : js_OkG 293 1218 (o_il 5 1220) := js_St.okG (st_iload d_293_1218) (fun _ _ _ _ _ => rfl)
theorem ki_293_1217 : js_OkG 293 1217 (o_al 0 1218) := js_St.okG (st_aloadn rfl d_293_1217) (fun _ _ _ _ _ => rfl)
theorem ki_293_1216 : js_OkG 293 1216 (o_lI 100 1217) := js_St.okG (st_lI d_293_1216) (fun _ _ _ _ _ => rfl)
theorem ki_293_1247 : js_OkG 293 1247 (o_al 2 1248) := js_St.okG (st_aloadn rfl d_293_1247) (fun _ _ _ _ _ => rfl)
theorem ki_293_1245 : js_OkG 293 1245 (o_is 7 1247) := js_St.okG (st_istore (Nat.le_of_ble_eq_true rfl) d_293_1245) (fun _ _ _ _ _ => rfl)
theorem ki_293_1242 : js_OkG 293 1242 (o_cI 199 3 9 1245) := og_cI (site_V kk_293_199 (by decide) kw_1543 kw_1544 kw_1545 (fun t ht => by cases ht; exact Or.inl ⟨_, rfl, rfl⟩) d_293_1242) rfl rfl
theorem ki_293_1241 : js_OkG 293 1241 (o_lI 100 1242) := js_St.okG (st_lI d_293_1241) (fun _ _ _ _ _ => rfl)
theorem ki_293_1240 : js_OkG 293 1240 (o_b2 (fun x y => x + y) 1241) := js_St.okG (st_iadd d_293_1240) (fun _ _ _ _ _ => rfl)
theorem ki_293_1239 : js_OkG 293 1239 (o_ic 2 1240) := js_St.okG (st_iconst rfl d_293_1239) (fun _ _ _ _ _ => rfl)
theorem ki_293_1237 : js_OkG 293 1237 (o_il 5 1239) := js_St.okG (st_iload d_293_1237) (fun _ _ _ _ _ => rfl)
theorem ki_293_1236 : js_OkG 293 1236 (o_al 0 1237) := js_St.okG (st_aloadn rfl d_293_1236) (fun _ _ _ _ _ => rfl)
theorem ki_293_1235 : js_OkG 293 1235 (o_lI 100 1236) := js_St.okG (st_lI d_293_1235) (fun _ _ _ _ _ => rfl)
theorem ki_293_1234 : js_OkG 293 1234 (o_b2 (fun x y => x + y) 1235) := js_St.okG (st_iadd d_293_1234) (fun _ _ _ _ _ => rfl)
theorem ki_293_1233 : js_OkG 293 1233 (o_ic 1 1234) := js_St.okG (st_iconst rfl d_293_1233) (fun _ _ _ _ _ => rfl)
theorem ki_293_1263 : js_OkG 293 1263 (o_al 3 1264) := js_St.okG (st_aloadn rfl d_293_1263) (fun _ _ _ _ _ => rfl)
theorem ki_293_1260 : js_OkG 293 1260 (o_ne 1282 1263) := js_St.okG (st_ifne (by decide) d_293_1260) (fun _ _ _ _ _ => rfl)
theorem ki_293_1258 : js_OkG 293 1258 (o_il 6 1260) := js_St.okG (st_iload d_293_1258) (fun _ _ _ _ _ => rfl)
theorem ki_293_1257 : js_OkG 293 1257 (o_rZ) := og_rZ d_293_1257
theorem ki_293_1256 : js_OkG 293 1256 (o_ic 0 1257) := js_St.okG (st_iconst rfl d_293_1256) (fun _ _ _ _ _ => rfl)
theorem ki_293_1253 : js_OkG 293 1253 (o_ceq 1258 1256) := js_St.okG (st_iceq (by decide) d_293_1253) (fun _ _ _ _ _ => rfl)
theorem ki_293_1251 : js_OkG 293 1251 (o_il 6 1253) := js_St.okG (st_iload d_293_1251) (fun _ _ _ _ _ => rfl)
theorem ki_293_1248 : js_OkG 293 1248 (o_cI 134 1 9 1251) := og_cI (site_V kk_293_134 (by decide) kw_1285 kw_1286 kw_1287 (fun t ht => by cases ht; exact Or.inl ⟨_, rfl, rfl⟩) d_293_1248) rfl rfl
theorem ki_293_1277 : js_OkG 293 1277 (o_eq 1282 1280) := js_St.okG (st_ifeq (by decide) d_293_1277) (fun _ _ _ _ _ => rfl)
theorem ki_293_1276 : js_OkG 293 1276 (o_lcmp 1277) := js_St.okG (st_lcmp d_293_1276) (fun _ _ _ _ _ => rfl)
theorem ki_293_1275 : js_OkG 293 1275 (o_lc 0 1276) := js_St.okG (st_lconst rfl d_293_1275) (fun _ _ _ _ _ => rfl)
theorem ki_293_1272 : js_OkG 293 1272 (o_go 1276) := js_St.okG (st_goto (by decide) d_293_1272) (fun _ _ _ _ _ => rfl)
theorem ki_293_1271 : js_OkG 293 1271 (o_lc 1 1272) := js_St.okG (st_lconst rfl d_293_1271) (fun _ _ _ _ _ => rfl)
theorem ki_293_1268 : js_OkG 293 1268 (o_eq 1275 1271) := js_St.okG (st_ifeq (by decide) d_293_1268) (fun _ _ _ _ _ => rfl)
theorem ki_293_1266 : js_OkG 293 1266 (o_il 7 1268) := js_St.okG (st_iload d_293_1266) (fun _ _ _ _ _ => rfl)
theorem ki_293_1265 : js_OkG 293 1265 (o_lL 102 1266) := js_St.okG (st_lL d_293_1265) (fun _ _ _ _ _ => rfl)
theorem ki_293_1264 : js_OkG 293 1264 (o_ic 0 1265) := js_St.okG (st_iconst rfl d_293_1264) (fun _ _ _ _ _ => rfl)
theorem ki_293_1295 : js_OkG 293 1295 (o_ic 2 1296) := js_St.okG (st_iconst rfl d_293_1295) (fun _ _ _ _ _ => rfl)
theorem ki_293_1293 : js_OkG 293 1293 (o_il 5 1295) := js_St.okG (st_iload d_293_1293) (fun _ _ _ _ _ => rfl)
theorem ki_293_1292 : js_OkG 293 1292 (o_al 0 1293) := js_St.okG (st_aloadn rfl d_293_1292) (fun _ _ _ _ _ => rfl)
theorem ki_293_1291 : js_OkG 293 1291 (o_lI 100 1292) := js_St.okG (st_lI d_293_1291) (fun _ _ _ _ _ => rfl)
theorem ki_293_1290 : js_OkG 293 1290 (o_b2 (fun x y => x + y) 1291) := js_St.okG (st_iadd d_293_1290) (fun _ _ _ _ _ => rfl)
theorem ki_293_1289 : js_OkG 293 1289 (o_ic 1 1290) := js_St.okG (st_iconst rfl d_293_1289) (fun _ _ _ _ _ => rfl)
theorem ki_293_1287 : js_OkG 293 1287 (o_il 5 1289) := js_St.okG (st_iload d_293_1287) (fun _ _ _ _ _ => rfl)
theorem ki_293_1286 : js_OkG 293 1286 (o_al 0 1287) := js_St.okG (st_aloadn rfl d_293_1286) (fun _ _ _ _ _ => rfl)
theorem ki_293_1285 : js_OkG 293 1285 (o_al 1 1286) := js_St.okG (st_aloadn rfl d_293_1285) (fun _ _ _ _ _ => rfl)
theorem ki_293_1282 : js_OkG 293 1282 (o_go 2851) := js_St.okG (st_goto (by decide) d_293_1282) (fun _ _ _ _ _ => rfl)
theorem ki_293_1281 : js_OkG 293 1281 (o_rZ) := og_rZ d_293_1281
theorem ki_293_1280 : js_OkG 293 1280 (o_ic 0 1281) := js_St.okG (st_iconst rfl d_293_1280) (fun _ _ _ _ _ => rfl)
theorem ki_293_1311 : js_OkG 293 1311 (o_al 0 1312) := js_St.okG (st_aloadn rfl d_293_1311) (fun _ _ _ _ _ => rfl)
theorem ki_293_1310 : js_OkG 293 1310 (o_lI 100 1311) := js_St.okG (st_lI d_293_1310) (fun _ _ _ _ _ => rfl)
theorem ki_293_1309 : js_OkG 293 1309 (o_b2 (fun x y => x + y) 1310) := js_St.okG (st_iadd d_293_1309) (fun _ _ _ _ _ => rfl)
theorem ki_293_1308 : js_OkG 293 1308 (o_ic 1 1309) := js_St.okG (st_iconst rfl d_293_1308) (fun _ _ _ _ _ => rfl)
theorem ki_293_1306 : js_OkG 293 1306 (o_il 5 1308) := js_St.okG (st_iload d_293_1306) (fun _ _ _ _ _ => rfl)
theorem ki_293_1305 : js_OkG 293 1305 (o_al 0 1306) := js_St.okG (st_aloadn rfl d_293_1305) (fun _ _ _ _ _ => rfl)
theorem ki_293_1304 : js_OkG 293 1304 (o_al 2 1305) := js_St.okG (st_aloadn rfl d_293_1304) (fun _ _ _ _ _ => rfl)
theorem ki_293_1302 : js_OkG 293 1302 (o_is 6 1304) := js_St.okG (st_istore (Nat.le_of_ble_eq_true rfl) d_293_1302) (fun _ _ _ _ _ => rfl)
theorem ki_293_1299 : js_OkG 293 1299 (o_cI 269 4 0 1302) := og_sI kB_269 rfl kw_885 kw_886 d_293_1299
theorem ki_293_1298 : js_OkG 293 1298 (o_al 3 1299) := js_St.okG (st_aloadn rfl d_293_1298) (fun _ _ _ _ _ => rfl)
theorem ki_293_1297 : js_OkG 293 1297 (o_lI 100 1298) := js_St.okG (st_lI d_293_1297) (fun _ _ _ _ _ => rfl)
theorem ki_293_1296 : js_OkG 293 1296 (o_b2 (fun x y => x + y) 1297) := js_St.okG (st_iadd d_293_1296) (fun _ _ _ _ _ => rfl)
theorem ki_293_1326 : js_OkG 293 1326 (o_il 6 1328) := js_St.okG (st_iload d_293_1326) (fun _ _ _ _ _ => rfl)
theorem ki_293_1323 : js_OkG 293 1323 (o_cI 134 1 9 1326) := og_cI (site_V kk_293_134 (by decide) kw_1285 kw_1286 kw_1287 (fun t ht => by cases ht; exact Or.inl ⟨_, rfl, rfl⟩) d_293_1323) rfl rfl
theorem ki_293_1322 : js_OkG 293 1322 (o_al 2 1323) := js_St.okG (st_aloadn rfl d_293_1322) (fun _ _ _ _ _ => rfl)
theorem ki_293_1320 : js_OkG 293 1320 (o_is 7 1322) := js_St.okG (st_istore (Nat.le_of_ble_eq_true rfl) d_293_1320) (fun _ _ _ _ _ => rfl)
theorem ki_293_1317 : js_OkG 293 1317 (o_cI 200 3 9 1320) := og_cI (site_V kk_293_200 (by decide) kw_1547 kw_1548 kw_1549 (fun t ht => by cases ht; exact Or.inl ⟨_, rfl, rfl⟩) d_293_1317) rfl rfl
theorem ki_293_1316 : js_OkG 293 1316 (o_lI 100 1317) := js_St.okG (st_lI d_293_1316) (fun _ _ _ _ _ => rfl)
theorem ki_293_1315 : js_OkG 293 1315 (o_b2 (fun x y => x + y) 1316) := js_St.okG (st_iadd d_293_1315) (fun _ _ _ _ _ => rfl)
theorem ki_293_1314 : js_OkG 293 1314 (o_ic 2 1315) := js_St.okG (st_iconst rfl d_293_1314) (fun _ _ _ _ _ => rfl)
theorem ki_293_1312 : js_OkG 293 1312 (o_il 5 1314) := js_St.okG (st_iload d_293_1312) (fun _ _ _ _ _ => rfl)
theorem ki_293_1343 : js_OkG 293 1343 (o_i2l 1344) := js_St.okG (st_i2l d_293_1343) (fun _ _ _ _ _ => rfl)
theorem ki_293_1341 : js_OkG 293 1341 (o_il 7 1343) := js_St.okG (st_iload d_293_1341) (fun _ _ _ _ _ => rfl)
theorem ki_293_1340 : js_OkG 293 1340 (o_lL 102 1341) := js_St.okG (st_lL d_293_1340) (fun _ _ _ _ _ => rfl)
theorem ki_293_1339 : js_OkG 293 1339 (o_ic 0 1340) := js_St.okG (st_iconst rfl d_293_1339) (fun _ _ _ _ _ => rfl)
theorem ki_293_1338 : js_OkG 293 1338 (o_al 3 1339) := js_St.okG (st_aloadn rfl d_293_1338) (fun _ _ _ _ _ => rfl)
theorem ki_293_1335 : js_OkG 293 1335 (o_ne 1350 1338) := js_St.okG (st_ifne (by decide) d_293_1335) (fun _ _ _ _ _ => rfl)
theorem ki_293_1333 : js_OkG 293 1333 (o_il 6 1335) := js_St.okG (st_iload d_293_1333) (fun _ _ _ _ _ => rfl)
theorem ki_293_1332 : js_OkG 293 1332 (o_rZ) := og_rZ d_293_1332
theorem ki_293_1331 : js_OkG 293 1331 (o_ic 0 1332) := js_St.okG (st_iconst rfl d_293_1331) (fun _ _ _ _ _ => rfl)
theorem ki_293_1328 : js_OkG 293 1328 (o_ceq 1333 1331) := js_St.okG (st_iceq (by decide) d_293_1328) (fun _ _ _ _ _ => rfl)
theorem ki_293_1358 : js_OkG 293 1358 (o_cL 201 1 9 1361) := og_cL (site_V kk_293_201 (by decide) kw_1551 kw_1552 kw_1553 (fun t ht => by cases ht; exact Or.inl ⟨_, rfl, rfl⟩) d_293_1358) rfl rfl
theorem ki_293_1357 : js_OkG 293 1357 (o_al 2 1358) := js_St.okG (st_aloadn rfl d_293_1357) (fun _ _ _ _ _ => rfl)
theorem ki_293_1354 : js_OkG 293 1354 (o_cL 80 1 8 1357) := og_cL (site_V kk_293_80 (by decide) kw_572 kw_573 kw_574 (fun t ht => by cases ht; exact Or.inl ⟨_, rfl, rfl⟩) d_293_1354) rfl rfl
theorem ki_293_1353 : js_OkG 293 1353 (o_al 1 1354) := js_St.okG (st_aloadn rfl d_293_1353) (fun _ _ _ _ _ => rfl)
theorem ki_293_1350 : js_OkG 293 1350 (o_go 2851) := js_St.okG (st_goto (by decide) d_293_1350) (fun _ _ _ _ _ => rfl)
theorem ki_293_1349 : js_OkG 293 1349 (o_rZ) := og_rZ d_293_1349
theorem ki_293_1348 : js_OkG 293 1348 (o_ic 0 1349) := js_St.okG (st_iconst rfl d_293_1348) (fun _ _ _ _ _ => rfl)
theorem ki_293_1345 : js_OkG 293 1345 (o_eq 1350 1348) := js_St.okG (st_ifeq (by decide) d_293_1345) (fun _ _ _ _ _ => rfl)
theorem ki_293_1344 : js_OkG 293 1344 (o_lcmp 1345) := js_St.okG (st_lcmp d_293_1344) (fun _ _ _ _ _ => rfl)
theorem ki_293_1375 : js_OkG 293 1375 (o_al 3 1376) := js_St.okG (st_aloadn rfl d_293_1375) (fun _ _ _ _ _ => rfl)
theorem ki_293_1374 : js_OkG 293 1374 (o_u (fun x => (x.toUInt32 % 65536).toInt32) 1375) := js_St.okG (st_i2c d_293_1374) (fun _ _ _ _ _ => rfl)
theorem ki_293_1373 : js_OkG 293 1373 (o_lI 100 1374) := js_St.okG (st_lI d_293_1373) (fun _ _ _ _ _ => rfl)
theorem ki_293_1372 : js_OkG 293 1372 (o_b2 (fun x y => x + y) 1373) := js_St.okG (st_iadd d_293_1372) (fun _ _ _ _ _ => rfl)
theorem ki_293_1371 : js_OkG 293 1371 (o_ic 1 1372) := js_St.okG (st_iconst rfl d_293_1371) (fun _ _ _ _ _ => rfl)
theorem ki_293_1369 : js_OkG 293 1369 (o_il 5 1371) := js_St.okG (st_iload d_293_1369) (fun _ _ _ _ _ => rfl)
theorem ki_293_1368 : js_OkG 293 1368 (o_al 0 1369) := js_St.okG (st_aloadn rfl d_293_1368) (fun _ _ _ _ _ => rfl)
theorem ki_293_1367 : js_OkG 293 1367 (o_al 1 1368) := js_St.okG (st_aloadn rfl d_293_1367) (fun _ _ _ _ _ => rfl)
theorem ki_293_1366 : js_OkG 293 1366 (o_rZ) := og_rZ d_293_1366
theorem ki_293_1365 : js_OkG 293 1365 (o_ic 0 1366) := js_St.okG (st_iconst rfl d_293_1365) (fun _ _ _ _ _ => rfl)
theorem ki_293_1362 : js_OkG 293 1362 (o_eq 2851 1365) := js_St.okG (st_ifeq (by decide) d_293_1362) (fun _ _ _ _ _ => rfl)
theorem ki_293_1361 : js_OkG 293 1361 (o_lcmp 1362) := js_St.okG (st_lcmp d_293_1361) (fun _ _ _ _ _ => rfl)
theorem ki_293_1389 : js_OkG 293 1389 (o_cL 202 2 9 1392) := og_cL (site_V kk_293_202 (by decide) kw_1555 kw_1556 kw_1557 (fun t ht => by cases ht; exact Or.inl ⟨_, rfl, rfl⟩) d_293_1389) rfl rfl
theorem ki_293_1388 : js_OkG 293 1388 (o_u (fun x => (x.toUInt32 % 65536).toInt32) 1389) := js_St.okG (st_i2c d_293_1388) (fun _ _ _ _ _ => rfl)
theorem ki_293_1387 : js_OkG 293 1387 (o_lI 100 1388) := js_St.okG (st_lI d_293_1387) (fun _ _ _ _ _ => rfl)
theorem ki_293_1386 : js_OkG 293 1386 (o_b2 (fun x y => x + y) 1387) := js_St.okG (st_iadd d_293_1386) (fun _ _ _ _ _ => rfl)
theorem ki_293_1385 : js_OkG 293 1385 (o_ic 1 1386) := js_St.okG (st_iconst rfl d_293_1385) (fun _ _ _ _ _ => rfl)
theorem ki_293_1383 : js_OkG 293 1383 (o_il 5 1385) := js_St.okG (st_iload d_293_1383) (fun _ _ _ _ _ => rfl)
theorem ki_293_1382 : js_OkG 293 1382 (o_al 0 1383) := js_St.okG (st_aloadn rfl d_293_1382) (fun _ _ _ _ _ => rfl)
theorem ki_293_1381 : js_OkG 293 1381 (o_al 2 1382) := js_St.okG (st_aloadn rfl d_293_1381) (fun _ _ _ _ _ => rfl)
theorem ki_293_1379 : js_OkG 293 1379 (o_is 6 1381) := js_St.okG (st_istore (Nat.le_of_ble_eq_true rfl) d_293_1379) (fun _ _ _ _ _ => rfl)
theorem ki_293_1376 : js_OkG 293 1376 (o_cI 270 3 0 1379) := og_sI kB_270 rfl kw_893 kw_894 d_293_1376
theorem ki_293_1407 : js_OkG 293 1407 (o_ne 1421 1410) := js_St.okG (st_ifne (by decide) d_293_1407) (fun _ _ _ _ _ => rfl)
theorem ki_293_1405 : js_OkG 293 1405 (o_il 6 1407) := js_St.okG (st_iload d_293_1405) (fun _ _ _ _ _ => rfl)
theorem ki_293_1404 : js_OkG 293 1404 (o_rZ) := og_rZ d_293_1404
theorem ki_293_1403 : js_OkG 293 1403 (o_ic 0 1404) := js_St.okG (st_iconst rfl d_293_1403) (fun _ _ _ _ _ => rfl)
theorem ki_293_1400 : js_OkG 293 1400 (o_ceq 1405 1403) := js_St.okG (st_iceq (by decide) d_293_1400) (fun _ _ _ _ _ => rfl)
theorem ki_293_1398 : js_OkG 293 1398 (o_il 6 1400) := js_St.okG (st_iload d_293_1398) (fun _ _ _ _ _ => rfl)
theorem ki_293_1395 : js_OkG 293 1395 (o_cI 134 1 9 1398) := og_cI (site_V kk_293_134 (by decide) kw_1285 kw_1286 kw_1287 (fun t ht => by cases ht; exact Or.inl ⟨_, rfl, rfl⟩) d_293_1395) rfl rfl
theorem ki_293_1394 : js_OkG 293 1394 (o_al 2 1395) := js_St.okG (st_aloadn rfl d_293_1394) (fun _ _ _ _ _ => rfl)
theorem ki_293_1392 : js_OkG 293 1392 (o_ls 7 1394) := js_St.okG (st_lstore (Nat.le_of_ble_eq_true rfl) d_293_1392) (fun _ _ _ _ _ => rfl)
theorem ki_293_1421 : js_OkG 293 1421 (o_go 2851) := js_St.okG (st_goto (by decide) d_293_1421) (fun _ _ _ _ _ => rfl)
theorem ki_293_1420 : js_OkG 293 1420 (o_rZ) := og_rZ d_293_1420
theorem ki_293_1419 : js_OkG 293 1419 (o_ic 0 1420) := js_St.okG (st_iconst rfl d_293_1419) (fun _ _ _ _ _ => rfl)
theorem ki_293_1416 : js_OkG 293 1416 (o_eq 1421 1419) := js_St.okG (st_ifeq (by decide) d_293_1416) (fun _ _ _ _ _ => rfl)
theorem ki_293_1415 : js_OkG 293 1415 (o_lcmp 1416) := js_St.okG (st_lcmp d_293_1415) (fun _ _ _ _ _ => rfl)
theorem ki_293_1413 : js_OkG 293 1413 (o_ll 7 1415) := js_St.okG (st_lload d_293_1413) (fun _ _ _ _ _ => rfl)
theorem ki_293_1412 : js_OkG 293 1412 (o_lL 102 1413) := js_St.okG (st_lL d_293_1412) (fun _ _ _ _ _ => rfl)
theorem ki_293_1411 : js_OkG 293 1411 (o_ic 0 1412) := js_St.okG (st_iconst rfl d_293_1411) (fun _ _ _ _ _ => rfl)
theorem ki_293_1410 : js_OkG 293 1410 (o_al 3 1411) := js_St.okG (st_aloadn rfl d_293_1410) (fun _ _ _ _ _ => rfl)
theorem ki_293_1439 : js_OkG 293 1439 (o_cL 83 1 8 1442) := og_cL (site_V kk_293_83 (by decide) kw_584 kw_585 kw_586 (fun t ht => by cases ht; exact Or.inl ⟨_, rfl, rfl⟩) d_293_1439) rfl rfl
theorem ki_293_1438 : js_OkG 293 1438 (o_al 1 1439) := js_St.okG (st_aloadn rfl d_293_1438) (fun _ _ _ _ _ => rfl)
theorem ki_293_1437 : js_OkG 293 1437 (o_rZ) := og_rZ d_293_1437
theorem ki_293_1436 : js_OkG 293 1436 (o_ic 0 1437) := js_St.okG (st_iconst rfl d_293_1436) (fun _ _ _ _ _ => rfl)
theorem ki_293_1433 : js_OkG 293 1433 (o_eq 2851 1436) := js_St.okG (st_ifeq (by decide) d_293_1433) (fun _ _ _ _ _ => rfl)
theorem ki_293_1432 : js_OkG 293 1432 (o_lcmp 1433) := js_St.okG (st_lcmp d_293_1432) (fun _ _ _ _ _ => rfl)
theorem ki_293_1429 : js_OkG 293 1429 (o_cL 203 1 9 1432) := og_cL (site_V kk_293_203 (by decide) kw_1559 kw_1560 kw_1561 (fun t ht => by cases ht; exact Or.inl ⟨_, rfl, rfl⟩) d_293_1429) rfl rfl
theorem ki_293_1428 : js_OkG 293 1428 (o_al 2 1429) := js_St.okG (st_aloadn rfl d_293_1428) (fun _ _ _ _ _ => rfl)
theorem ki_293_1425 : js_OkG 293 1425 (o_cL 82 1 8 1428) := og_cL (site_V kk_293_82 (by decide) kw_579 kw_580 kw_581 (fun t ht => by cases ht; exact Or.inl ⟨_, rfl, rfl⟩) d_293_1425) rfl rfl
theorem ki_293_1424 : js_OkG 293 1424 (o_al 1 1425) := js_St.okG (st_aloadn rfl d_293_1424) (fun _ _ _ _ _ => rfl)
theorem ki_293_1453 : js_OkG 293 1453 (o_cI 84 1 8 1456) := og_cI (site_V kk_293_84 (by decide) kw_592 kw_593 kw_594 (fun t ht => by cases ht; exact Or.inl ⟨_, rfl, rfl⟩) d_293_1453) rfl rfl
theorem ki_293_1452 : js_OkG 293 1452 (o_al 1 1453) := js_St.okG (st_aloadn rfl d_293_1452) (fun _ _ _ _ _ => rfl)
theorem ki_293_1451 : js_OkG 293 1451 (o_rZ) := og_rZ d_293_1451
theorem ki_293_1450 : js_OkG 293 1450 (o_ic 0 1451) := js_St.okG (st_iconst rfl d_293_1450) (fun _ _ _ _ _ => rfl)
theorem ki_293_1447 : js_OkG 293 1447 (o_eq 2851 1450) := js_St.okG (st_ifeq (by decide) d_293_1447) (fun _ _ _ _ _ => rfl)
theorem ki_293_1446 : js_OkG 293 1446 (o_lcmp 1447) := js_St.okG (st_lcmp d_293_1446) (fun _ _ _ _ _ => rfl)
theorem ki_293_1443 : js_OkG 293 1443 (o_cL 204 1 9 1446) := og_cL (site_V kk_293_204 (by decide) kw_1563 kw_1564 kw_1565 (fun t ht => by cases ht; exact Or.inl ⟨_, rfl, rfl⟩) d_293_1443) rfl rfl
theorem ki_293_1442 : js_OkG 293 1442 (o_al 2 1443) := js_St.okG (st_aloadn rfl d_293_1442) (fun _ _ _ _ _ => rfl)
theorem ki_293_1470 : js_OkG 293 1470 (o_cI 206 1 9 1473) := og_cI (site_V kk_293_206 (by decide) kw_1572 kw_1573 kw_1574 (fun t ht => by cases ht; exact Or.inl ⟨_, rfl, rfl⟩) d_293_1470) rfl rfl
theorem ki_293_1469 : js_OkG 293 1469 (o_al 2 1470) := js_St.okG (st_aloadn rfl d_293_1469) (fun _ _ _ _ _ => rfl)
theorem ki_293_1466 : js_OkG 293 1466 (o_cI 85 1 8 1469) := og_cI (site_V kk_293_85 (by decide) kw_603 kw_604 kw_605 (fun t ht => by cases ht; exact Or.inl ⟨_, rfl, rfl⟩) d_293_1466) rfl rfl
theorem ki_293_1465 : js_OkG 293 1465 (o_al 1 1466) := js_St.okG (st_aloadn rfl d_293_1465) (fun _ _ _ _ _ => rfl)
theorem ki_293_1464 : js_OkG 293 1464 (o_rZ) := og_rZ d_293_1464
theorem ki_293_1463 : js_OkG 293 1463 (o_ic 0 1464) := js_St.okG (st_iconst rfl d_293_1463) (fun _ _ _ _ _ => rfl)
theorem ki_293_1460 : js_OkG 293 1460 (o_ceq 2851 1463) := js_St.okG (st_iceq (by decide) d_293_1460) (fun _ _ _ _ _ => rfl)
theorem ki_293_1457 : js_OkG 293 1457 (o_cI 205 1 9 1460) := og_cI (site_V kk_293_205 (by decide) kw_1568 kw_1569 kw_1570 (fun t ht => by cases ht; exact Or.inl ⟨_, rfl, rfl⟩) d_293_1457) rfl rfl
theorem ki_293_1456 : js_OkG 293 1456 (o_al 2 1457) := js_St.okG (st_aloadn rfl d_293_1456) (fun _ _ _ _ _ => rfl)
theorem ki_293_1486 : js_OkG 293 1486 (o_ceq 2851 1489) := js_St.okG (st_iceq (by decide) d_293_1486) (fun _ _ _ _ _ => rfl)
theorem ki_293_1483 : js_OkG 293 1483 (o_cI 207 1 9 1486) := og_cI (site_V kk_293_207 (by decide) kw_1576 kw_1577 kw_1578 (fun t ht => by cases ht; exact Or.inl ⟨_, rfl, rfl⟩) d_293_1483) rfl rfl
theorem ki_293_1482 : js_OkG 293 1482 (o_al 2 1483) := js_St.okG (st_aloadn rfl d_293_1482) (fun _ _ _ _ _ => rfl)
theorem ki_293_1479 : js_OkG 293 1479 (o_cI 86 1 8 1482) := og_cI (site_V kk_293_86 (by decide) kw_617 kw_618 kw_619 (fun t ht => by cases ht; exact Or.inl ⟨_, rfl, rfl⟩) d_293_1479) rfl rfl
theorem ki_293_1478 : js_OkG 293 1478 (o_al 1 1479) := js_St.okG (st_aloadn rfl d_293_1478) (fun _ _ _ _ _ => rfl)
theorem ki_293_1477 : js_OkG 293 1477 (o_rZ) := og_rZ d_293_1477
theorem ki_293_1476 : js_OkG 293 1476 (o_ic 0 1477) := js_St.okG (st_iconst rfl d_293_1476) (fun _ _ _ _ _ => rfl)
theorem ki_293_1473 : js_OkG 293 1473 (o_ceq 2851 1476) := js_St.okG (st_iceq (by decide) d_293_1473) (fun _ _ _ _ _ => rfl)
theorem ki_293_1503 : js_OkG 293 1503 (o_lI 100 1504) := js_St.okG (st_lI d_293_1503) (fun _ _ _ _ _ => rfl)
theorem ki_293_1502 : js_OkG 293 1502 (o_b2 (fun x y => x + y) 1503) := js_St.okG (st_iadd d_293_1502) (fun _ _ _ _ _ => rfl)
theorem ki_293_1501 : js_OkG 293 1501 (o_ic 2 1502) := js_St.okG (st_iconst rfl d_293_1501) (fun _ _ _ _ _ => rfl)
theorem ki_293_1499 : js_OkG 293 1499 (o_il 5 1501) := js_St.okG (st_iload d_293_1499) (fun _ _ _ _ _ => rfl)
theorem ki_293_1498 : js_OkG 293 1498 (o_al 0 1499) := js_St.okG (st_aloadn rfl d_293_1498) (fun _ _ _ _ _ => rfl)
theorem ki_293_1497 : js_OkG 293 1497 (o_lI 100 1498) := js_St.okG (st_lI d_293_1497) (fun _ _ _ _ _ => rfl)
theorem ki_293_1496 : js_OkG 293 1496 (o_b2 (fun x y => x + y) 1497) := js_St.okG (st_iadd d_293_1496) (fun _ _ _ _ _ => rfl)
theorem ki_293_1495 : js_OkG 293 1495 (o_ic 1 1496) := js_St.okG (st_iconst rfl d_293_1495) (fun _ _ _ _ _ => rfl)
theorem ki_293_1493 : js_OkG 293 1493 (o_il 5 1495) := js_St.okG (st_iload d_293_1493) (fun _ _ _ _ _ => rfl)
theorem ki_293_1492 : js_OkG 293 1492 (o_al 0 1493) := js_St.okG (st_aloadn rfl d_293_1492) (fun _ _ _ _ _ => rfl)
theorem ki_293_1491 : js_OkG 293 1491 (o_al 1 1492) := js_St.okG (st_aloadn rfl d_293_1491) (fun _ _ _ _ _ => rfl)
theorem ki_293_1490 : js_OkG 293 1490 (o_rZ) := og_rZ d_293_1490
theorem ki_293_1489 : js_OkG 293 1489 (o_ic 0 1490) := js_St.okG (st_iconst rfl d_293_1489) (fun _ _ _ _ _ => rfl)
theorem ki_293_1518 : js_OkG 293 1518 (o_il 5 1520) := js_St.okG (st_iload d_293_1518) (fun _ _ _ _ _ => rfl)
theorem ki_293_1517 : js_OkG 293 1517 (o_al 0 1518) := js_St.okG (st_aloadn rfl d_293_1517) (fun _ _ _ _ _ => rfl)
theorem ki_293_1516 : js_OkG 293 1516 (o_lI 100 1517) := js_St.okG (st_lI d_293_1516) (fun _ _ _ _ _ => rfl)
theorem ki_293_1515 : js_OkG 293 1515 (o_b2 (fun x y => x + y) 1516) := js_St.okG (st_iadd d_293_1515) (fun _ _ _ _ _ => rfl)
theorem ki_293_1514 : js_OkG 293 1514 (o_ic 1 1515) := js_St.okG (st_iconst rfl d_293_1514) (fun _ _ _ _ _ => rfl)
theorem ki_293_1512 : js_OkG 293 1512 (o_il 5 1514) := js_St.okG (st_iload d_293_1512) (fun _ _ _ _ _ => rfl)
theorem ki_293_1511 : js_OkG 293 1511 (o_al 0 1512) := js_St.okG (st_aloadn rfl d_293_1511) (fun _ _ _ _ _ => rfl)
theorem ki_293_1510 : js_OkG 293 1510 (o_al 2 1511) := js_St.okG (st_aloadn rfl d_293_1510) (fun _ _ _ _ _ => rfl)
theorem ki_293_1508 : js_OkG 293 1508 (o_is 6 1510) := js_St.okG (st_istore (Nat.le_of_ble_eq_true rfl) d_293_1508) (fun _ _ _ _ _ => rfl)
theorem ki_293_1505 : js_OkG 293 1505 (o_cI 271 4 0 1508) := og_sI kB_271 rfl kw_902 kw_903 d_293_1505
theorem ki_293_1504 : js_OkG 293 1504 (o_al 3 1505) := js_St.okG (st_aloadn rfl d_293_1504) (fun _ _ _ _ _ => rfl)
theorem ki_293_1534 : js_OkG 293 1534 (o_ceq 1539 1537) := js_St.okG (st_iceq (by decide) d_293_1534) (fun _ _ _ _ _ => rfl)
theorem ki_293_1532 : js_OkG 293 1532 (o_il 6 1534) := js_St.okG (st_iload d_293_1532) (fun _ _ _ _ _ => rfl)
theorem ki_293_1529 : js_OkG 293 1529 (o_cI 134 1 9 1532) := og_cI (site_V kk_293_134 (by decide) kw_1285 kw_1286 kw_1287 (fun t ht => by cases ht; exact Or.inl ⟨_, rfl, rfl⟩) d_293_1529) rfl rfl
theorem ki_293_1528 : js_OkG 293 1528 (o_al 2 1529) := js_St.okG (st_aloadn rfl d_293_1528) (fun _ _ _ _ _ => rfl)
theorem ki_293_1526 : js_OkG 293 1526 (o_is 7 1528) := js_St.okG (st_istore (Nat.le_of_ble_eq_true rfl) d_293_1526) (fun _ _ _ _ _ => rfl)
theorem ki_293_1523 : js_OkG 293 1523 (o_cI 208 3 9 1526) := og_cI (site_V kk_293_208 (by decide) kw_1580 kw_1581 kw_1582 (fun t ht => by cases ht; exact Or.inl ⟨_, rfl, rfl⟩) d_293_1523) rfl rfl
theorem ki_293_1522 : js_OkG 293 1522 (o_lI 100 1523) := js_St.okG (st_lI d_293_1522) (fun _ _ _ _ _ => rfl)
theorem ki_293_1521 : js_OkG 293 1521 (o_b2 (fun x y => x + y) 1522) := js_St.okG (st_iadd d_293_1521) (fun _ _ _ _ _ => rfl)
theorem ki_293_1520 : js_OkG 293 1520 (o_ic 2 1521) := js_St.okG (st_iconst rfl d_293_1520) (fun _ _ _ _ _ => rfl)
theorem ki_293_1549 : js_OkG 293 1549 (o_eq 1556 1552) := js_St.okG (st_ifeq (by decide) d_293_1549) (fun _ _ _ _ _ => rfl)
theorem ki_293_1547 : js_OkG 293 1547 (o_il 7 1549) := js_St.okG (st_iload d_293_1547) (fun _ _ _ _ _ => rfl)
theorem ki_293_1546 : js_OkG 293 1546 (o_lL 102 1547) := js_St.okG (st_lL d_293_1546) (fun _ _ _ _ _ => rfl)
theorem ki_293_1545 : js_OkG 293 1545 (o_ic 0 1546) := js_St.okG (st_iconst rfl d_293_1545) (fun _ _ _ _ _ => rfl)
theorem ki_293_1544 : js_OkG 293 1544 (o_al 3 1545) := js_St.okG (st_aloadn rfl d_293_1544) (fun _ _ _ _ _ => rfl)
theorem ki_293_1541 : js_OkG 293 1541 (o_ne 1563 1544) := js_St.okG (st_ifne (by decide) d_293_1541) (fun _ _ _ _ _ => rfl)
theorem ki_293_1539 : js_OkG 293 1539 (o_il 6 1541) := js_St.okG (st_iload d_293_1539) (fun _ _ _ _ _ => rfl)
theorem ki_293_1538 : js_OkG 293 1538 (o_rZ) := og_rZ d_293_1538
theorem ki_293_1537 : js_OkG 293 1537 (o_ic 0 1538) := js_St.okG (st_iconst rfl d_293_1537) (fun _ _ _ _ _ => rfl)
theorem ki_293_1567 : js_OkG 293 1567 (o_al 0 1568) := js_St.okG (st_aloadn rfl d_293_1567) (fun _ _ _ _ _ => rfl)
theorem ki_293_1566 : js_OkG 293 1566 (o_al 1 1567) := js_St.okG (st_aloadn rfl d_293_1566) (fun _ _ _ _ _ => rfl)
theorem ki_293_1563 : js_OkG 293 1563 (o_go 2851) := js_St.okG (st_goto (by decide) d_293_1563) (fun _ _ _ _ _ => rfl)
theorem ki_293_1562 : js_OkG 293 1562 (o_rZ) := og_rZ d_293_1562
theorem ki_293_1561 : js_OkG 293 1561 (o_ic 0 1562) := js_St.okG (st_iconst rfl d_293_1561) (fun _ _ _ _ _ => rfl)
theorem ki_293_1558 : js_OkG 293 1558 (o_eq 1563 1561) := js_St.okG (st_ifeq (by decide) d_293_1558) (fun _ _ _ _ _ => rfl)
theorem ki_293_1557 : js_OkG 293 1557 (o_lcmp 1558) := js_St.okG (st_lcmp d_293_1557) (fun _ _ _ _ _ => rfl)
theorem ki_293_1556 : js_OkG 293 1556 (o_lc 0 1557) := js_St.okG (st_lconst rfl d_293_1556) (fun _ _ _ _ _ => rfl)
theorem ki_293_1553 : js_OkG 293 1553 (o_go 1557) := js_St.okG (st_goto (by decide) d_293_1553) (fun _ _ _ _ _ => rfl)
theorem ki_293_1552 : js_OkG 293 1552 (o_lc 1 1553) := js_St.okG (st_lconst rfl d_293_1552) (fun _ _ _ _ _ => rfl)
theorem ki_293_1583 : js_OkG 293 1583 (o_ic 1 1584) := js_St.okG (st_iconst rfl d_293_1583) (fun _ _ _ _ _ => rfl)
theorem ki_293_1581 : js_OkG 293 1581 (o_il 5 1583) := js_St.okG (st_iload d_293_1581) (fun _ _ _ _ _ => rfl)
theorem ki_293_1580 : js_OkG 293 1580 (o_al 0 1581) := js_St.okG (st_aloadn rfl d_293_1580) (fun _ _ _ _ _ => rfl)
theorem ki_293_1579 : js_OkG 293 1579 (o_al 2 1580) := js_St.okG (st_aloadn rfl d_293_1579) (fun _ _ _ _ _ => rfl)
theorem ki_293_1577 : js_OkG 293 1577 (o_is 6 1579) := js_St.okG (st_istore (Nat.le_of_ble_eq_true rfl) d_293_1577) (fun _ _ _ _ _ => rfl)
theorem ki_293_1574 : js_OkG 293 1574 (o_cI 272 3 0 1577) := og_sI kB_272 rfl kw_910 kw_911 d_293_1574
theorem ki_293_1573 : js_OkG 293 1573 (o_al 3 1574) := js_St.okG (st_aloadn rfl d_293_1573) (fun _ _ _ _ _ => rfl)
theorem ki_293_1572 : js_OkG 293 1572 (o_lI 100 1573) := js_St.okG (st_lI d_293_1572) (fun _ _ _ _ _ => rfl)
theorem ki_293_1571 : js_OkG 293 1571 (o_b2 (fun x y => x + y) 1572) := js_St.okG (st_iadd d_293_1571) (fun _ _ _ _ _ => rfl)
theorem ki_293_1570 : js_OkG 293 1570 (o_ic 1 1571) := js_St.okG (st_iconst rfl d_293_1570) (fun _ _ _ _ _ => rfl)
theorem ki_293_1568 : js_OkG 293 1568 (o_il 5 1570) := js_St.okG (st_iload d_293_1568) (fun _ _ _ _ _ => rfl)
theorem ki_293_1597 : js_OkG 293 1597 (o_ceq 1602 1600) := js_St.okG (st_iceq (by decide) d_293_1597) (fun _ _ _ _ _ => rfl)
theorem ki_293_1595 : js_OkG 293 1595 (o_il 6 1597) := js_St.okG (st_iload d_293_1595) (fun _ _ _ _ _ => rfl)
theorem ki_293_1592 : js_OkG 293 1592 (o_cI 134 1 9 1595) := og_cI (site_V kk_293_134 (by decide) kw_1285 kw_1286 kw_1287 (fun t ht => by cases ht; exact Or.inl ⟨_, rfl, rfl⟩) d_293_1592) rfl rfl
theorem ki_293_1591 : js_OkG 293 1591 (o_al 2 1592) := js_St.okG (st_aloadn rfl d_293_1591) (fun _ _ _ _ _ => rfl)
theorem ki_293_1589 : js_OkG 293 1589 (o_is 7 1591) := js_St.okG (st_istore (Nat.le_of_ble_eq_true rfl) d_293_1589) (fun _ _ _ _ _ => rfl)
theorem ki_293_1586 : js_OkG 293 1586 (o_cI 209 2 9 1589) := og_cI (site_V kk_293_209 (by decide) kw_1584 kw_1585 kw_1586 (fun t ht => by cases ht; exact Or.inl ⟨_, rfl, rfl⟩) d_293_1586) rfl rfl
theorem ki_293_1585 : js_OkG 293 1585 (o_lI 100 1586) := js_St.okG (st_lI d_293_1585) (fun _ _ _ _ _ => rfl)
theorem ki_293_1584 : js_OkG 293 1584 (o_b2 (fun x y => x + y) 1585) := js_St.okG (st_iadd d_293_1584) (fun _ _ _ _ _ => rfl)
theorem ki_293_1614 : js_OkG 293 1614 (o_eq 1619 1617) := js_St.okG (st_ifeq (by decide) d_293_1614) (fun _ _ _ _ _ => rfl)
theorem ki_293_1613 : js_OkG 293 1613 (o_lcmp 1614) := js_St.okG (st_lcmp d_293_1613) (fun _ _ _ _ _ => rfl)
theorem ki_293_1612 : js_OkG 293 1612 (o_i2l 1613) := js_St.okG (st_i2l d_293_1612) (fun _ _ _ _ _ => rfl)
theorem ki_293_1610 : js_OkG 293 1610 (o_il 7 1612) := js_St.okG (st_iload d_293_1610) (fun _ _ _ _ _ => rfl)
theorem ki_293_1609 : js_OkG 293 1609 (o_lL 102 1610) := js_St.okG (st_lL d_293_1609) (fun _ _ _ _ _ => rfl)
theorem ki_293_1608 : js_OkG 293 1608 (o_ic 0 1609) := js_St.okG (st_iconst rfl d_293_1608) (fun _ _ _ _ _ => rfl)
theorem ki_293_1607 : js_OkG 293 1607 (o_al 3 1608) := js_St.okG (st_aloadn rfl d_293_1607) (fun _ _ _ _ _ => rfl)
theorem ki_293_1604 : js_OkG 293 1604 (o_ne 1619 1607) := js_St.okG (st_ifne (by decide) d_293_1604) (fun _ _ _ _ _ => rfl)
theorem ki_293_1602 : js_OkG 293 1602 (o_il 6 1604) := js_St.okG (st_iload d_293_1602) (fun _ _ _ _ _ => rfl)
theorem ki_293_1601 : js_OkG 293 1601 (o_rZ) := og_rZ d_293_1601
theorem ki_293_1600 : js_OkG 293 1600 (o_ic 0 1601) := js_St.okG (st_iconst rfl d_293_1600) (fun _ _ _ _ _ => rfl)
theorem ki_293_1630 : js_OkG 293 1630 (o_il 5 1632) := js_St.okG (st_iload d_293_1630) (fun _ _ _ _ _ => rfl)
theorem ki_293_1629 : js_OkG 293 1629 (o_al 0 1630) := js_St.okG (st_aloadn rfl d_293_1629) (fun _ _ _ _ _ => rfl)
theorem ki_293_1628 : js_OkG 293 1628 (o_lI 100 1629) := js_St.okG (st_lI d_293_1628) (fun _ _ _ _ _ => rfl)
theorem ki_293_1627 : js_OkG 293 1627 (o_b2 (fun x y => x + y) 1628) := js_St.okG (st_iadd d_293_1627) (fun _ _ _ _ _ => rfl)
theorem ki_293_1626 : js_OkG 293 1626 (o_ic 1 1627) := js_St.okG (st_iconst rfl d_293_1626) (fun _ _ _ _ _ => rfl)
theorem ki_293_1624 : js_OkG 293 1624 (o_il 5 1626) := js_St.okG (st_iload d_293_1624) (fun _ _ _ _ _ => rfl)
theorem ki_293_1623 : js_OkG 293 1623 (o_al 0 1624) := js_St.okG (st_aloadn rfl d_293_1623) (fun _ _ _ _ _ => rfl)
theorem ki_293_1622 : js_OkG 293 1622 (o_al 1 1623) := js_St.okG (st_aloadn rfl d_293_1622) (fun _ _ _ _ _ => rfl)
theorem ki_293_1619 : js_OkG 293 1619 (o_go 2851) := js_St.okG (st_goto (by decide) d_293_1619) (fun _ _ _ _ _ => rfl)
theorem ki_293_1618 : js_OkG 293 1618 (o_rZ) := og_rZ d_293_1618
theorem ki_293_1617 : js_OkG 293 1617 (o_ic 0 1618) := js_St.okG (st_iconst rfl d_293_1617) (fun _ _ _ _ _ => rfl)
theorem ki_293_1647 : js_OkG 293 1647 (o_lI 100 1648) := js_St.okG (st_lI d_293_1647) (fun _ _ _ _ _ => rfl)
theorem ki_293_1646 : js_OkG 293 1646 (o_b2 (fun x y => x + y) 1647) := js_St.okG (st_iadd d_293_1646) (fun _ _ _ _ _ => rfl)
theorem ki_293_1645 : js_OkG 293 1645 (o_ic 1 1646) := js_St.okG (st_iconst rfl d_293_1645) (fun _ _ _ _ _ => rfl)
theorem ki_293_1643 : js_OkG 293 1643 (o_il 5 1645) := js_St.okG (st_iload d_293_1643) (fun _ _ _ _ _ => rfl)
theorem ki_293_1642 : js_OkG 293 1642 (o_al 0 1643) := js_St.okG (st_aloadn rfl d_293_1642) (fun _ _ _ _ _ => rfl)
theorem ki_293_1641 : js_OkG 293 1641 (o_al 2 1642) := js_St.okG (st_aloadn rfl d_293_1641) (fun _ _ _ _ _ => rfl)
theorem ki_293_1639 : js_OkG 293 1639 (o_is 6 1641) := js_St.okG (st_istore (Nat.le_of_ble_eq_true rfl) d_293_1639) (fun _ _ _ _ _ => rfl)
theorem ki_293_1636 : js_OkG 293 1636 (o_cI 273 4 0 1639) := og_sI kB_273 rfl kw_918 kw_919 d_293_1636
theorem ki_293_1635 : js_OkG 293 1635 (o_al 3 1636) := js_St.okG (st_aloadn rfl d_293_1635) (fun _ _ _ _ _ => rfl)
theorem ki_293_1634 : js_OkG 293 1634 (o_lI 100 1635) := js_St.okG (st_lI d_293_1634) (fun _ _ _ _ _ => rfl)
theorem ki_293_1633 : js_OkG 293 1633 (o_b2 (fun x y => x + y) 1634) := js_St.okG (st_iadd d_293_1633) (fun _ _ _ _ _ => rfl)
theorem ki_293_1632 : js_OkG 293 1632 (o_ic 2 1633) := js_St.okG (st_iconst rfl d_293_1632) (fun _ _ _ _ _ => rfl)
theorem ki_293_1663 : js_OkG 293 1663 (o_il 6 1665) := js_St.okG (st_iload d_293_1663) (fun _ _ _ _ _ => rfl)
theorem ki_293_1660 : js_OkG 293 1660 (o_cI 134 1 9 1663) := og_cI (site_V kk_293_134 (by decide) kw_1285 kw_1286 kw_1287 (fun t ht => by cases ht; exact Or.inl ⟨_, rfl, rfl⟩) d_293_1660) rfl rfl
theorem ki_293_1659 : js_OkG 293 1659 (o_al 2 1660) := js_St.okG (st_aloadn rfl d_293_1659) (fun _ _ _ _ _ => rfl)
theorem ki_293_1657 : js_OkG 293 1657 (o_is 7 1659) := js_St.okG (st_istore (Nat.le_of_ble_eq_true rfl) d_293_1657) (fun _ _ _ _ _ => rfl)
theorem ki_293_1654 : js_OkG 293 1654 (o_cI 210 3 9 1657) := og_cI (site_V kk_293_210 (by decide) kw_1588 kw_1589 kw_1590 (fun t ht => by cases ht; exact Or.inl ⟨_, rfl, rfl⟩) d_293_1654) rfl rfl
theorem ki_293_1653 : js_OkG 293 1653 (o_lI 100 1654) := js_St.okG (st_lI d_293_1653) (fun _ _ _ _ _ => rfl)
theorem ki_293_1652 : js_OkG 293 1652 (o_b2 (fun x y => x + y) 1653) := js_St.okG (st_iadd d_293_1652) (fun _ _ _ _ _ => rfl)
theorem ki_293_1651 : js_OkG 293 1651 (o_ic 2 1652) := js_St.okG (st_iconst rfl d_293_1651) (fun _ _ _ _ _ => rfl)
theorem ki_293_1649 : js_OkG 293 1649 (o_il 5 1651) := js_St.okG (st_iload d_293_1649) (fun _ _ _ _ _ => rfl)
theorem ki_293_1648 : js_OkG 293 1648 (o_al 0 1649) := js_St.okG (st_aloadn rfl d_293_1648) (fun _ _ _ _ _ => rfl)
theorem ki_293_1678 : js_OkG 293 1678 (o_il 7 1680) := js_St.okG (st_iload d_293_1678) (fun _ _ _ _ _ => rfl)
theorem ki_293_1677 : js_OkG 293 1677 (o_lL 102 1678) := js_St.okG (st_lL d_293_1677) (fun _ _ _ _ _ => rfl)
theorem ki_293_1676 : js_OkG 293 1676 (o_ic 0 1677) := js_St.okG (st_iconst rfl d_293_1676) (fun _ _ _ _ _ => rfl)
theorem ki_293_1675 : js_OkG 293 1675 (o_al 3 1676) := js_St.okG (st_aloadn rfl d_293_1675) (fun _ _ _ _ _ => rfl)
theorem ki_293_1672 : js_OkG 293 1672 (o_ne 1687 1675) := js_St.okG (st_ifne (by decide) d_293_1672) (fun _ _ _ _ _ => rfl)
theorem ki_293_1670 : js_OkG 293 1670 (o_il 6 1672) := js_St.okG (st_iload d_293_1670) (fun _ _ _ _ _ => rfl)
theorem ki_293_1669 : js_OkG 293 1669 (o_rZ) := og_rZ d_293_1669
theorem ki_293_1668 : js_OkG 293 1668 (o_ic 0 1669) := js_St.okG (st_iconst rfl d_293_1668) (fun _ _ _ _ _ => rfl)
theorem ki_293_1665 : js_OkG 293 1665 (o_ceq 1670 1668) := js_St.okG (st_iceq (by decide) d_293_1665) (fun _ _ _ _ _ => rfl)
theorem ki_293_1695 : js_OkG 293 1695 (o_b2 (fun x y => x + y) 1696) := js_St.okG (st_iadd d_293_1695) (fun _ _ _ _ _ => rfl)
theorem ki_293_1694 : js_OkG 293 1694 (o_ic 1 1695) := js_St.okG (st_iconst rfl d_293_1694) (fun _ _ _ _ _ => rfl)
theorem ki_293_1692 : js_OkG 293 1692 (o_il 5 1694) := js_St.okG (st_iload d_293_1692) (fun _ _ _ _ _ => rfl)
theorem ki_293_1691 : js_OkG 293 1691 (o_al 0 1692) := js_St.okG (st_aloadn rfl d_293_1691) (fun _ _ _ _ _ => rfl)
theorem ki_293_1690 : js_OkG 293 1690 (o_al 1 1691) := js_St.okG (st_aloadn rfl d_293_1690) (fun _ _ _ _ _ => rfl)
theorem ki_293_1687 : js_OkG 293 1687 (o_go 2851) := js_St.okG (st_goto (by decide) d_293_1687) (fun _ _ _ _ _ => rfl)
theorem ki_293_1686 : js_OkG 293 1686 (o_rZ) := og_rZ d_293_1686
theorem ki_293_1685 : js_OkG 293 1685 (o_ic 0 1686) := js_St.okG (st_iconst rfl d_293_1685) (fun _ _ _ _ _ => rfl)
theorem ki_293_1682 : js_OkG 293 1682 (o_eq 1687 1685) := js_St.okG (st_ifeq (by decide) d_293_1682) (fun _ _ _ _ _ => rfl)
theorem ki_293_1681 : js_OkG 293 1681 (o_lcmp 1682) := js_St.okG (st_lcmp d_293_1681) (fun _ _ _ _ _ => rfl)
theorem ki_293_1680 : js_OkG 293 1680 (o_i2l 1681) := js_St.okG (st_i2l d_293_1680) (fun _ _ _ _ _ => rfl)
theorem ki_293_1710 : js_OkG 293 1710 (o_il 5 1712) := js_St.okG (st_iload d_293_1710) (fun _ _ _ _ _ => rfl)
theorem ki_293_1709 : js_OkG 293 1709 (o_al 0 1710) := js_St.okG (st_aloadn rfl d_293_1709) (fun _ _ _ _ _ => rfl)
theorem ki_293_1708 : js_OkG 293 1708 (o_lI 100 1709) := js_St.okG (st_lI d_293_1708) (fun _ _ _ _ _ => rfl)
theorem ki_293_1707 : js_OkG 293 1707 (o_b2 (fun x y => x + y) 1708) := js_St.okG (st_iadd d_293_1707) (fun _ _ _ _ _ => rfl)
theorem ki_293_1706 : js_OkG 293 1706 (o_ic 3 1707) := js_St.okG (st_iconst rfl d_293_1706) (fun _ _ _ _ _ => rfl)
theorem ki_293_1704 : js_OkG 293 1704 (o_il 5 1706) := js_St.okG (st_iload d_293_1704) (fun _ _ _ _ _ => rfl)
theorem ki_293_1703 : js_OkG 293 1703 (o_al 0 1704) := js_St.okG (st_aloadn rfl d_293_1703) (fun _ _ _ _ _ => rfl)
theorem ki_293_1702 : js_OkG 293 1702 (o_lI 100 1703) := js_St.okG (st_lI d_293_1702) (fun _ _ _ _ _ => rfl)
theorem ki_293_1701 : js_OkG 293 1701 (o_b2 (fun x y => x + y) 1702) := js_St.okG (st_iadd d_293_1701) (fun _ _ _ _ _ => rfl)
theorem ki_293_1700 : js_OkG 293 1700 (o_ic 2 1701) := js_St.okG (st_iconst rfl d_293_1700) (fun _ _ _ _ _ => rfl)
theorem ki_293_1698 : js_OkG 293 1698 (o_il 5 1700) := js_St.okG (st_iload d_293_1698) (fun _ _ _ _ _ => rfl)
theorem ki_293_1697 : js_OkG 293 1697 (o_al 0 1698) := js_St.okG (st_aloadn rfl d_293_1697) (fun _ _ _ _ _ => rfl)
theorem ki_293_1696 : js_OkG 293 1696 (o_lI 100 1697) := js_St.okG (st_lI d_293_1696) (fun _ _ _ _ _ => rfl)
theorem ki_293_1727 : js_OkG 293 1727 (o_lI 100 1728) := js_St.okG (st_lI d_293_1727) (fun _ _ _ _ _ => rfl)
theorem ki_293_1726 : js_OkG 293 1726 (o_b2 (fun x y => x + y) 1727) := js_St.okG (st_iadd d_293_1726) (fun _ _ _ _ _ => rfl)
theorem ki_293_1725 : js_OkG 293 1725 (o_ic 1 1726) := js_St.okG (st_iconst rfl d_293_1725) (fun _ _ _ _ _ => rfl)
theorem ki_293_1723 : js_OkG 293 1723 (o_il 5 1725) := js_St.okG (st_iload d_293_1723) (fun _ _ _ _ _ => rfl)
theorem ki_293_1722 : js_OkG 293 1722 (o_al 0 1723) := js_St.okG (st_aloadn rfl d_293_1722) (fun _ _ _ _ _ => rfl)
theorem ki_293_1721 : js_OkG 293 1721 (o_al 2 1722) := js_St.okG (st_aloadn rfl d_293_1721) (fun _ _ _ _ _ => rfl)
theorem ki_293_1719 : js_OkG 293 1719 (o_is 6 1721) := js_St.okG (st_istore (Nat.le_of_ble_eq_true rfl) d_293_1719) (fun _ _ _ _ _ => rfl)
theorem ki_293_1716 : js_OkG 293 1716 (o_cI 274 6 0 1719) := og_sI kB_274 rfl kw_926 kw_927 d_293_1716
theorem ki_293_1715 : js_OkG 293 1715 (o_al 3 1716) := js_St.okG (st_aloadn rfl d_293_1715) (fun _ _ _ _ _ => rfl)
theorem ki_293_1714 : js_OkG 293 1714 (o_lI 100 1715) := js_St.okG (st_lI d_293_1714) (fun _ _ _ _ _ => rfl)
theorem ki_293_1713 : js_OkG 293 1713 (o_b2 (fun x y => x + y) 1714) := js_St.okG (st_iadd d_293_1713) (fun _ _ _ _ _ => rfl)
theorem ki_293_1712 : js_OkG 293 1712 (o_ic 4 1713) := js_St.okG (st_iconst rfl d_293_1712) (fun _ _ _ _ _ => rfl)
theorem ki_293_1743 : js_OkG 293 1743 (o_ic 4 1744) := js_St.okG (st_iconst rfl d_293_1743) (fun _ _ _ _ _ => rfl)
theorem ki_293_1741 : js_OkG 293 1741 (o_il 5 1743) := js_St.okG (st_iload d_293_1741) (fun _ _ _ _ _ => rfl)
theorem ki_293_1740 : js_OkG 293 1740 (o_al 0 1741) := js_St.okG (st_aloadn rfl d_293_1740) (fun _ _ _ _ _ => rfl)
theorem ki_293_1739 : js_OkG 293 1739 (o_lI 100 1740) := js_St.okG (st_lI d_293_1739) (fun _ _ _ _ _ => rfl)
theorem ki_293_1738 : js_OkG 293 1738 (o_b2 (fun x y => x + y) 1739) := js_St.okG (st_iadd d_293_1738) (fun _ _ _ _ _ => rfl)
theorem ki_293_1737 : js_OkG 293 1737 (o_ic 3 1738) := js_St.okG (st_iconst rfl d_293_1737) (fun _ _ _ _ _ => rfl)
theorem ki_293_1735 : js_OkG 293 1735 (o_il 5 1737) := js_St.okG (st_iload d_293_1735) (fun _ _ _ _ _ => rfl)
theorem ki_293_1734 : js_OkG 293 1734 (o_al 0 1735) := js_St.okG (st_aloadn rfl d_293_1734) (fun _ _ _ _ _ => rfl)
theorem ki_293_1733 : js_OkG 293 1733 (o_lI 100 1734) := js_St.okG (st_lI d_293_1733) (fun _ _ _ _ _ => rfl)
theorem ki_293_1732 : js_OkG 293 1732 (o_b2 (fun x y => x + y) 1733) := js_St.okG (st_iadd d_293_1732) (fun _ _ _ _ _ => rfl)
theorem ki_293_1731 : js_OkG 293 1731 (o_ic 2 1732) := js_St.okG (st_iconst rfl d_293_1731) (fun _ _ _ _ _ => rfl)
theorem ki_293_1729 : js_OkG 293 1729 (o_il 5 1731) := js_St.okG (st_iload d_293_1729) (fun _ _ _ _ _ => rfl)
theorem ki_293_1728 : js_OkG 293 1728 (o_al 0 1729) := js_St.okG (st_aloadn rfl d_293_1728) (fun _ _ _ _ _ => rfl)
theorem ki_293_1757 : js_OkG 293 1757 (o_ceq 1762 1760) := js_St.okG (st_iceq (by decide) d_293_1757) (fun _ _ _ _ _ => rfl)
theorem ki_293_1755 : js_OkG 293 1755 (o_il 6 1757) := js_St.okG (st_iload d_293_1755) (fun _ _ _ _ _ => rfl)
theorem ki_293_1752 : js_OkG 293 1752 (o_cI 134 1 9 1755) := og_cI (site_V kk_293_134 (by decide) kw_1285 kw_1286 kw_1287 (fun t ht => by cases ht; exact Or.inl ⟨_, rfl, rfl⟩) d_293_1752) rfl rfl
theorem ki_293_1751 : js_OkG 293 1751 (o_al 2 1752) := js_St.okG (st_aloadn rfl d_293_1751) (fun _ _ _ _ _ => rfl)
theorem ki_293_1749 : js_OkG 293 1749 (o_is 7 1751) := js_St.okG (st_istore (Nat.le_of_ble_eq_true rfl) d_293_1749) (fun _ _ _ _ _ => rfl)
theorem ki_293_1746 : js_OkG 293 1746 (o_cI 195 5 9 1749) := og_cI (site_V kk_293_195 (by decide) kw_1527 kw_1528 kw_1529 (fun t ht => by cases ht; exact Or.inl ⟨_, rfl, rfl⟩) d_293_1746) rfl rfl
theorem ki_293_1745 : js_OkG 293 1745 (o_lI 100 1746) := js_St.okG (st_lI d_293_1745) (fun _ _ _ _ _ => rfl)
theorem ki_293_1744 : js_OkG 293 1744 (o_b2 (fun x y => x + y) 1745) := js_St.okG (st_iadd d_293_1744) (fun _ _ _ _ _ => rfl)
theorem ki_293_1774 : js_OkG 293 1774 (o_eq 1779 1777) := js_St.okG (st_ifeq (by decide) d_293_1774) (fun _ _ _ _ _ => rfl)
theorem ki_293_1773 : js_OkG 293 1773 (o_lcmp 1774) := js_St.okG (st_lcmp d_293_1773) (fun _ _ _ _ _ => rfl)
theorem ki_293_1772 : js_OkG 293 1772 (o_i2l 1773) := js_St.okG (st_i2l d_293_1772) (fun _ _ _ _ _ => rfl)
theorem ki_293_1770 : js_OkG 293 1770 (o_il 7 1772) := js_St.okG (st_iload d_293_1770) (fun _ _ _ _ _ => rfl)
theorem ki_293_1769 : js_OkG 293 1769 (o_lL 102 1770) := js_St.okG (st_lL d_293_1769) (fun _ _ _ _ _ => rfl)
theorem ki_293_1768 : js_OkG 293 1768 (o_ic 0 1769) := js_St.okG (st_iconst rfl d_293_1768) (fun _ _ _ _ _ => rfl)
theorem ki_293_1767 : js_OkG 293 1767 (o_al 3 1768) := js_St.okG (st_aloadn rfl d_293_1767) (fun _ _ _ _ _ => rfl)
theorem ki_293_1764 : js_OkG 293 1764 (o_ne 1779 1767) := js_St.okG (st_ifne (by decide) d_293_1764) (fun _ _ _ _ _ => rfl)
theorem ki_293_1762 : js_OkG 293 1762 (o_il 6 1764) := js_St.okG (st_iload d_293_1762) (fun _ _ _ _ _ => rfl)
theorem ki_293_1761 : js_OkG 293 1761 (o_rZ) := og_rZ d_293_1761
theorem ki_293_1760 : js_OkG 293 1760 (o_ic 0 1761) := js_St.okG (st_iconst rfl d_293_1760) (fun _ _ _ _ _ => rfl)
theorem ki_293_1790 : js_OkG 293 1790 (o_il 5 1792) := js_St.okG (st_iload d_293_1790) (fun _ _ _ _ _ => rfl)
theorem ki_293_1789 : js_OkG 293 1789 (o_al 0 1790) := js_St.okG (st_aloadn rfl d_293_1789) (fun _ _ _ _ _ => rfl)
theorem ki_293_1788 : js_OkG 293 1788 (o_lI 100 1789) := js_St.okG (st_lI d_293_1788) (fun _ _ _ _ _ => rfl)
theorem ki_293_1787 : js_OkG 293 1787 (o_b2 (fun x y => x + y) 1788) := js_St.okG (st_iadd d_293_1787) (fun _ _ _ _ _ => rfl)
theorem ki_293_1786 : js_OkG 293 1786 (o_ic 1 1787) := js_St.okG (st_iconst rfl d_293_1786) (fun _ _ _ _ _ => rfl)
theorem ki_293_1784 : js_OkG 293 1784 (o_il 5 1786) := js_St.okG (st_iload d_293_1784) (fun _ _ _ _ _ => rfl)
theorem ki_293_1783 : js_OkG 293 1783 (o_al 0 1784) := js_St.okG (st_aloadn rfl d_293_1783) (fun _ _ _ _ _ => rfl)
theorem ki_293_1782 : js_OkG 293 1782 (o_al 1 1783) := js_St.okG (st_aloadn rfl d_293_1782) (fun _ _ _ _ _ => rfl)
theorem ki_293_1779 : js_OkG 293 1779 (o_go 2851) := js_St.okG (st_goto (by decide) d_293_1779) (fun _ _ _ _ _ => rfl)
theorem ki_293_1778 : js_OkG 293 1778 (o_rZ) := og_rZ d_293_1778
theorem ki_293_1777 : js_OkG 293 1777 (o_ic 0 1778) := js_St.okG (st_iconst rfl d_293_1777) (fun _ _ _ _ _ => rfl)
theorem ki_293_1807 : js_OkG 293 1807 (o_al 2 1808) := js_St.okG (st_aloadn rfl d_293_1807) (fun _ _ _ _ _ => rfl)
theorem ki_293_1805 : js_OkG 293 1805 (o_is 6 1807) := js_St.okG (st_istore (Nat.le_of_ble_eq_true rfl) d_293_1805) (fun _ _ _ _ _ => rfl)
theorem ki_293_1802 : js_OkG 293 1802 (o_cI 275 5 0 1805) := og_sI kB_275 rfl kw_939 kw_940 d_293_1802
theorem ki_293_1801 : js_OkG 293 1801 (o_al 3 1802) := js_St.okG (st_aloadn rfl d_293_1801) (fun _ _ _ _ _ => rfl)
theorem ki_293_1800 : js_OkG 293 1800 (o_lI 100 1801) := js_St.okG (st_lI d_293_1800) (fun _ _ _ _ _ => rfl)
theorem ki_293_1799 : js_OkG 293 1799 (o_b2 (fun x y => x + y) 1800) := js_St.okG (st_iadd d_293_1799) (fun _ _ _ _ _ => rfl)
theorem ki_293_1798 : js_OkG 293 1798 (o_ic 3 1799) := js_St.okG (st_iconst rfl d_293_1798) (fun _ _ _ _ _ => rfl)
theorem ki_293_1796 : js_OkG 293 1796 (o_il 5 1798) := js_St.okG (st_iload d_293_1796) (fun _ _ _ _ _ => rfl)
theorem ki_293_1795 : js_OkG 293 1795 (o_al 0 1796) := js_St.okG (st_aloadn rfl d_293_1795) (fun _ _ _ _ _ => rfl)
theorem ki_293_1794 : js_OkG 293 1794 (o_lI 100 1795) := js_St.okG (st_lI d_293_1794) (fun _ _ _ _ _ => rfl)
theorem ki_293_1793 : js_OkG 293 1793 (o_b2 (fun x y => x + y) 1794) := js_St.okG (st_iadd d_293_1793) (fun _ _ _ _ _ => rfl)
theorem ki_293_1792 : js_OkG 293 1792 (o_ic 2 1793) := js_St.okG (st_iconst rfl d_293_1792) (fun _ _ _ _ _ => rfl)
theorem ki_293_1823 : js_OkG 293 1823 (o_ic 3 1824) := js_St.okG (st_iconst rfl d_293_1823) (fun _ _ _ _ _ => rfl)
theorem ki_293_1821 : js_OkG 293 1821 (o_il 5 1823) := js_St.okG (st_iload d_293_1821) (fun _ _ _ _ _ => rfl)
theorem ki_293_1820 : js_OkG 293 1820 (o_al 0 1821) := js_St.okG (st_aloadn rfl d_293_1820) (fun _ _ _ _ _ => rfl)
theorem ki_293_1819 : js_OkG 293 1819 (o_lI 100 1820) := js_St.okG (st_lI d_293_1819) (fun _ _ _ _ _ => rfl)
theorem ki_293_1818 : js_OkG 293 1818 (o_b2 (fun x y => x + y) 1819) := js_St.okG (st_iadd d_293_1818) (fun _ _ _ _ _ => rfl)
theorem ki_293_1817 : js_OkG 293 1817 (o_ic 2 1818) := js_St.okG (st_iconst rfl d_293_1817) (fun _ _ _ _ _ => rfl)
theorem ki_293_1815 : js_OkG 293 1815 (o_il 5 1817) := js_St.okG (st_iload d_293_1815) (fun _ _ _ _ _ => rfl)
theorem ki_293_1814 : js_OkG 293 1814 (o_al 0 1815) := js_St.okG (st_aloadn rfl d_293_1814) (fun _ _ _ _ _ => rfl)
theorem ki_293_1813 : js_OkG 293 1813 (o_lI 100 1814) := js_St.okG (st_lI d_293_1813) (fun _ _ _ _ _ => rfl)
theorem ki_293_1812 : js_OkG 293 1812 (o_b2 (fun x y => x + y) 1813) := js_St.okG (st_iadd d_293_1812) (fun _ _ _ _ _ => rfl)
theorem ki_293_1811 : js_OkG 293 1811 (o_ic 1 1812) := js_St.okG (st_iconst rfl d_293_1811) (fun _ _ _ _ _ => rfl)
theorem ki_293_1809 : js_OkG 293 1809 (o_il 5 1811) := js_St.okG (st_iload d_293_1809) (fun _ _ _ _ _ => rfl)
theorem ki_293_1808 : js_OkG 293 1808 (o_al 0 1809) := js_St.okG (st_aloadn rfl d_293_1808) (fun _ _ _ _ _ => rfl)
theorem ki_293_1837 : js_OkG 293 1837 (o_ceq 1842 1840) := js_St.okG (st_iceq (by decide) d_293_1837) (fun _ _ _ _ _ => rfl)
theorem ki_293_1835 : js_OkG 293 1835 (o_il 6 1837) := js_St.okG (st_iload d_293_1835) (fun _ _ _ _ _ => rfl)
theorem ki_293_1832 : js_OkG 293 1832 (o_cI 134 1 9 1835) := og_cI (site_V kk_293_134 (by decide) kw_1285 kw_1286 kw_1287 (fun t ht => by cases ht; exact Or.inl ⟨_, rfl, rfl⟩) d_293_1832) rfl rfl
theorem ki_293_1831 : js_OkG 293 1831 (o_al 2 1832) := js_St.okG (st_aloadn rfl d_293_1831) (fun _ _ _ _ _ => rfl)
theorem ki_293_1829 : js_OkG 293 1829 (o_is 7 1831) := js_St.okG (st_istore (Nat.le_of_ble_eq_true rfl) d_293_1829) (fun _ _ _ _ _ => rfl)
theorem ki_293_1826 : js_OkG 293 1826 (o_cI 196 4 9 1829) := og_cI (site_V kk_293_196 (by decide) kw_1531 kw_1532 kw_1533 (fun t ht => by cases ht; exact Or.inl ⟨_, rfl, rfl⟩) d_293_1826) rfl rfl
theorem ki_293_1825 : js_OkG 293 1825 (o_lI 100 1826) := js_St.okG (st_lI d_293_1825) (fun _ _ _ _ _ => rfl)
theorem ki_293_1824 : js_OkG 293 1824 (o_b2 (fun x y => x + y) 1825) := js_St.okG (st_iadd d_293_1824) (fun _ _ _ _ _ => rfl)
theorem ki_293_1854 : js_OkG 293 1854 (o_eq 1859 1857) := js_St.okG (st_ifeq (by decide) d_293_1854) (fun _ _ _ _ _ => rfl)
theorem ki_293_1853 : js_OkG 293 1853 (o_lcmp 1854) := js_St.okG (st_lcmp d_293_1853) (fun _ _ _ _ _ => rfl)
theorem ki_293_1852 : js_OkG 293 1852 (o_i2l 1853) := js_St.okG (st_i2l d_293_1852) (fun _ _ _ _ _ => rfl)
theorem ki_293_1850 : js_OkG 293 1850 (o_il 7 1852) := js_St.okG (st_iload d_293_1850) (fun _ _ _ _ _ => rfl)
theorem ki_293_1849 : js_OkG 293 1849 (o_lL 102 1850) := js_St.okG (st_lL d_293_1849) (fun _ _ _ _ _ => rfl)
theorem ki_293_1848 : js_OkG 293 1848 (o_ic 0 1849) := js_St.okG (st_iconst rfl d_293_1848) (fun _ _ _ _ _ => rfl)
theorem ki_293_1847 : js_OkG 293 1847 (o_al 3 1848) := js_St.okG (st_aloadn rfl d_293_1847) (fun _ _ _ _ _ => rfl)
theorem ki_293_1844 : js_OkG 293 1844 (o_ne 1859 1847) := js_St.okG (st_ifne (by decide) d_293_1844) (fun _ _ _ _ _ => rfl)
theorem ki_293_1842 : js_OkG 293 1842 (o_il 6 1844) := js_St.okG (st_iload d_293_1842) (fun _ _ _ _ _ => rfl)
theorem ki_293_1841 : js_OkG 293 1841 (o_rZ) := og_rZ d_293_1841
theorem ki_293_1840 : js_OkG 293 1840 (o_ic 0 1841) := js_St.okG (st_iconst rfl d_293_1840) (fun _ _ _ _ _ => rfl)
theorem ki_293_1870 : js_OkG 293 1870 (o_il 5 1872) := js_St.okG (st_iload d_293_1870) (fun _ _ _ _ _ => rfl)
theorem ki_293_1869 : js_OkG 293 1869 (o_al 0 1870) := js_St.okG (st_aloadn rfl d_293_1869) (fun _ _ _ _ _ => rfl)
theorem ki_293_1868 : js_OkG 293 1868 (o_lI 100 1869) := js_St.okG (st_lI d_293_1868) (fun _ _ _ _ _ => rfl)
theorem ki_293_1867 : js_OkG 293 1867 (o_b2 (fun x y => x + y) 1868) := js_St.okG (st_iadd d_293_1867) (fun _ _ _ _ _ => rfl)
theorem ki_293_1866 : js_OkG 293 1866 (o_ic 1 1867) := js_St.okG (st_iconst rfl d_293_1866) (fun _ _ _ _ _ => rfl)
theorem ki_293_1864 : js_OkG 293 1864 (o_il 5 1866) := js_St.okG (st_iload d_293_1864) (fun _ _ _ _ _ => rfl)
theorem ki_293_1863 : js_OkG 293 1863 (o_al 0 1864) := js_St.okG (st_aloadn rfl d_293_1863) (fun _ _ _ _ _ => rfl)
theorem ki_293_1862 : js_OkG 293 1862 (o_al 1 1863) := js_St.okG (st_aloadn rfl d_293_1862) (fun _ _ _ _ _ => rfl)
theorem ki_293_1859 : js_OkG 293 1859 (o_go 2851) := js_St.okG (st_goto (by decide) d_293_1859) (fun _ _ _ _ _ => rfl)
theorem ki_293_1858 : js_OkG 293 1858 (o_rZ) := og_rZ d_293_1858
theorem ki_293_1857 : js_OkG 293 1857 (o_ic 0 1858) := js_St.okG (st_iconst rfl d_293_1857) (fun _ _ _ _ _ => rfl)
theorem ki_293_1887 : js_OkG 293 1887 (o_lI 100 1888) := js_St.okG (st_lI d_293_1887) (fun _ _ _ _ _ => rfl)
theorem ki_293_1886 : js_OkG 293 1886 (o_b2 (fun x y => x + y) 1887) := js_St.okG (st_iadd d_293_1886) (fun _ _ _ _ _ => rfl)
theorem ki_293_1885 : js_OkG 293 1885 (o_ic 1 1886) := js_St.okG (st_iconst rfl d_293_1885) (fun _ _ _ _ _ => rfl)
theorem ki_293_1883 : js_OkG 293 1883 (o_il 5 1885) := js_St.okG (st_iload d_293_1883) (fun _ _ _ _ _ => rfl)
theorem ki_293_1882 : js_OkG 293 1882 (o_al 0 1883) := js_St.okG (st_aloadn rfl d_293_1882) (fun _ _ _ _ _ => rfl)
theorem ki_293_1881 : js_OkG 293 1881 (o_al 2 1882) := js_St.okG (st_aloadn rfl d_293_1881) (fun _ _ _ _ _ => rfl)
theorem ki_293_1879 : js_OkG 293 1879 (o_is 6 1881) := js_St.okG (st_istore (Nat.le_of_ble_eq_true rfl) d_293_1879) (fun _ _ _ _ _ => rfl)
theorem ki_293_1876 : js_OkG 293 1876 (o_cI 276 4 0 1879) := og_sI kB_276 rfl kw_947 kw_948 d_293_1876
theorem ki_293_1875 : js_OkG 293 1875 (o_al 3 1876) := js_St.okG (st_aloadn rfl d_293_1875) (fun _ _ _ _ _ => rfl)
theorem ki_293_1874 : js_OkG 293 1874 (o_lI 100 1875) := js_St.okG (st_lI d_293_1874) (fun _ _ _ _ _ => rfl)
theorem ki_293_1873 : js_OkG 293 1873 (o_b2 (fun x y => x + y) 1874) := js_St.okG (st_iadd d_293_1873) (fun _ _ _ _ _ => rfl)
theorem ki_293_1872 : js_OkG 293 1872 (o_ic 2 1873) := js_St.okG (st_iconst rfl d_293_1872) (fun _ _ _ _ _ => rfl)
theorem ki_293_1903 : js_OkG 293 1903 (o_il 6 1905) := js_St.okG (st_iload d_293_1903) (fun _ _ _ _ _ => rfl)
theorem ki_293_1900 : js_OkG 293 1900 (o_cI 134 1 9 1903) := og_cI (site_V kk_293_134 (by decide) kw_1285 kw_1286 kw_1287 (fun t ht => by cases ht; exact Or.inl ⟨_, rfl, rfl⟩) d_293_1900) rfl rfl
theorem ki_293_1899 : js_OkG 293 1899 (o_al 2 1900) := js_St.okG (st_aloadn rfl d_293_1899) (fun _ _ _ _ _ => rfl)
theorem ki_293_1897 : js_OkG 293 1897 (o_is 7 1899) := js_St.okG (st_istore (Nat.le_of_ble_eq_true rfl) d_293_1897) (fun _ _ _ _ _ => rfl)
theorem ki_293_1894 : js_OkG 293 1894 (o_cI 197 3 9 1897) := og_cI (site_V kk_293_197 (by decide) kw_1535 kw_1536 kw_1537 (fun t ht => by cases ht; exact Or.inl ⟨_, rfl, rfl⟩) d_293_1894) rfl rfl
theorem ki_293_1893 : js_OkG 293 1893 (o_lI 100 1894) := js_St.okG (st_lI d_293_1893) (fun _ _ _ _ _ => rfl)
theorem ki_293_1892 : js_OkG 293 1892 (o_b2 (fun x y => x + y) 1893) := js_St.okG (st_iadd d_293_1892) (fun _ _ _ _ _ => rfl)
theorem ki_293_1891 : js_OkG 293 1891 (o_ic 2 1892) := js_St.okG (st_iconst rfl d_293_1891) (fun _ _ _ _ _ => rfl)
theorem ki_293_1889 : js_OkG 293 1889 (o_il 5 1891) := js_St.okG (st_iload d_293_1889) (fun _ _ _ _ _ => rfl)
theorem ki_293_1888 : js_OkG 293 1888 (o_al 0 1889) := js_St.okG (st_aloadn rfl d_293_1888) (fun _ _ _ _ _ => rfl)
theorem ki_293_1918 : js_OkG 293 1918 (o_il 7 1920) := js_St.okG (st_iload d_293_1918) (fun _ _ _ _ _ => rfl)
theorem ki_293_1917 : js_OkG 293 1917 (o_lL 102 1918) := js_St.okG (st_lL d_293_1917) (fun _ _ _ _ _ => rfl)
theorem ki_293_1916 : js_OkG 293 1916 (o_ic 0 1917) := js_St.okG (st_iconst rfl d_293_1916) (fun _ _ _ _ _ => rfl)
theorem ki_293_1915 : js_OkG 293 1915 (o_al 3 1916) := js_St.okG (st_aloadn rfl d_293_1915) (fun _ _ _ _ _ => rfl)
theorem ki_293_1912 : js_OkG 293 1912 (o_ne 1927 1915) := js_St.okG (st_ifne (by decide) d_293_1912) (fun _ _ _ _ _ => rfl)
theorem ki_293_1910 : js_OkG 293 1910 (o_il 6 1912) := js_St.okG (st_iload d_293_1910) (fun _ _ _ _ _ => rfl)
theorem ki_293_1909 : js_OkG 293 1909 (o_rZ) := og_rZ d_293_1909
theorem ki_293_1908 : js_OkG 293 1908 (o_ic 0 1909) := js_St.okG (st_iconst rfl d_293_1908) (fun _ _ _ _ _ => rfl)
theorem ki_293_1905 : js_OkG 293 1905 (o_ceq 1910 1908) := js_St.okG (st_iceq (by decide) d_293_1905) (fun _ _ _ _ _ => rfl)
theorem ki_293_1935 : js_OkG 293 1935 (o_b2 (fun x y => x + y) 1936) := js_St.okG (st_iadd d_293_1935) (fun _ _ _ _ _ => rfl)
theorem ki_293_1934 : js_OkG 293 1934 (o_ic 1 1935) := js_St.okG (st_iconst rfl d_293_1934) (fun _ _ _ _ _ => rfl)
theorem ki_293_1932 : js_OkG 293 1932 (o_il 5 1934) := js_St.okG (st_iload d_293_1932) (fun _ _ _ _ _ => rfl)
theorem ki_293_1931 : js_OkG 293 1931 (o_al 0 1932) := js_St.okG (st_aloadn rfl d_293_1931) (fun _ _ _ _ _ => rfl)
theorem ki_293_1930 : js_OkG 293 1930 (o_al 1 1931) := js_St.okG (st_aloadn rfl d_293_1930) (fun _ _ _ _ _ => rfl)
theorem ki_293_1927 : js_OkG 293 1927 (o_go 2851) := js_St.okG (st_goto (by decide) d_293_1927) (fun _ _ _ _ _ => rfl)
theorem ki_293_1926 : js_OkG 293 1926 (o_rZ) := og_rZ d_293_1926
theorem ki_293_1925 : js_OkG 293 1925 (o_ic 0 1926) := js_St.okG (st_iconst rfl d_293_1925) (fun _ _ _ _ _ => rfl)
theorem ki_293_1922 : js_OkG 293 1922 (o_eq 1927 1925) := js_St.okG (st_ifeq (by decide) d_293_1922) (fun _ _ _ _ _ => rfl)
theorem ki_293_1921 : js_OkG 293 1921 (o_lcmp 1922) := js_St.okG (st_lcmp d_293_1921) (fun _ _ _ _ _ => rfl)
theorem ki_293_1920 : js_OkG 293 1920 (o_i2l 1921) := js_St.okG (st_i2l d_293_1920) (fun _ _ _ _ _ => rfl)
theorem ki_293_1950 : js_OkG 293 1950 (o_cI 277 5 0 1953) := og_sI kB_277 rfl kw_954 kw_955 d_293_1950
theorem ki_293_1949 : js_OkG 293 1949 (o_al 3 1950) := js_St.okG (st_aloadn rfl d_293_1949) (fun _ _ _ _ _ => rfl)
theorem ki_293_1948 : js_OkG 293 1948 (o_lI 100 1949) := js_St.okG (st_lI d_293_1948) (fun _ _ _ _ _ => rfl)
theorem ki_293_1947 : js_OkG 293 1947 (o_b2 (fun x y => x + y) 1948) := js_St.okG (st_iadd d_293_1947) (fun _ _ _ _ _ => rfl)
theorem ki_293_1946 : js_OkG 293 1946 (o_ic 3 1947) := js_St.okG (st_iconst rfl d_293_1946) (fun _ _ _ _ _ => rfl)
theorem ki_293_1944 : js_OkG 293 1944 (o_il 5 1946) := js_St.okG (st_iload d_293_1944) (fun _ _ _ _ _ => rfl)
theorem ki_293_1943 : js_OkG 293 1943 (o_al 0 1944) := js_St.okG (st_aloadn rfl d_293_1943) (fun _ _ _ _ _ => rfl)
theorem ki_293_1942 : js_OkG 293 1942 (o_lI 100 1943) := js_St.okG (st_lI d_293_1942) (fun _ _ _ _ _ => rfl)
theorem ki_293_1941 : js_OkG 293 1941 (o_b2 (fun x y => x + y) 1942) := js_St.okG (st_iadd d_293_1941) (fun _ _ _ _ _ => rfl)
theorem ki_293_1940 : js_OkG 293 1940 (o_ic 2 1941) := js_St.okG (st_iconst rfl d_293_1940) (fun _ _ _ _ _ => rfl)
theorem ki_293_1938 : js_OkG 293 1938 (o_il 5 1940) := js_St.okG (st_iload d_293_1938) (fun _ _ _ _ _ => rfl)
theorem ki_293_1937 : js_OkG 293 1937 (o_al 0 1938) := js_St.okG (st_aloadn rfl d_293_1937) (fun _ _ _ _ _ => rfl)
theorem ki_293_1936 : js_OkG 293 1936 (o_lI 100 1937) := js_St.okG (st_lI d_293_1936) (fun _ _ _ _ _ => rfl)
theorem ki_293_1967 : js_OkG 293 1967 (o_lI 100 1968) := js_St.okG (st_lI d_293_1967) (fun _ _ _ _ _ => rfl)
theorem ki_293_1966 : js_OkG 293 1966 (o_b2 (fun x y => x + y) 1967) := js_St.okG (st_iadd d_293_1966) (fun _ _ _ _ _ => rfl)
theorem ki_293_1965 : js_OkG 293 1965 (o_ic 2 1966) := js_St.okG (st_iconst rfl d_293_1965) (fun _ _ _ _ _ => rfl)
theorem ki_293_1963 : js_OkG 293 1963 (o_il 5 1965) := js_St.okG (st_iload d_293_1963) (fun _ _ _ _ _ => rfl)
theorem ki_293_1962 : js_OkG 293 1962 (o_al 0 1963) := js_St.okG (st_aloadn rfl d_293_1962) (fun _ _ _ _ _ => rfl)
theorem ki_293_1961 : js_OkG 293 1961 (o_lI 100 1962) := js_St.okG (st_lI d_293_1961) (fun _ _ _ _ _ => rfl)
theorem ki_293_1960 : js_OkG 293 1960 (o_b2 (fun x y => x + y) 1961) := js_St.okG (st_iadd d_293_1960) (fun _ _ _ _ _ => rfl)
theorem ki_293_1959 : js_OkG 293 1959 (o_ic 1 1960) := js_St.okG (st_iconst rfl d_293_1959) (fun _ _ _ _ _ => rfl)
theorem ki_293_1957 : js_OkG 293 1957 (o_il 5 1959) := js_St.okG (st_iload d_293_1957) (fun _ _ _ _ _ => rfl)
theorem ki_293_1956 : js_OkG 293 1956 (o_al 0 1957) := js_St.okG (st_aloadn rfl d_293_1956) (fun _ _ _ _ _ => rfl)
theorem ki_293_1955 : js_OkG 293 1955 (o_al 2 1956) := js_St.okG (st_aloadn rfl d_293_1955) (fun _ _ _ _ _ => rfl)
theorem ki_293_1953 : js_OkG 293 1953 (o_is 6 1955) := js_St.okG (st_istore (Nat.le_of_ble_eq_true rfl) d_293_1953) (fun _ _ _ _ _ => rfl)
theorem ki_293_1983 : js_OkG 293 1983 (o_il 6 1985) := js_St.okG (st_iload d_293_1983) (fun _ _ _ _ _ => rfl)
theorem ki_293_1980 : js_OkG 293 1980 (o_cI 134 1 9 1983) := og_cI (site_V kk_293_134 (by decide) kw_1285 kw_1286 kw_1287 (fun t ht => by cases ht; exact Or.inl ⟨_, rfl, rfl⟩) d_293_1980) rfl rfl
theorem ki_293_1979 : js_OkG 293 1979 (o_al 2 1980) := js_St.okG (st_aloadn rfl d_293_1979) (fun _ _ _ _ _ => rfl)
theorem ki_293_1977 : js_OkG 293 1977 (o_is 7 1979) := js_St.okG (st_istore (Nat.le_of_ble_eq_true rfl) d_293_1977) (fun _ _ _ _ _ => rfl)
theorem ki_293_1974 : js_OkG 293 1974 (o_cI 198 4 9 1977) := og_cI (site_V kk_293_198 (by decide) kw_1539 kw_1540 kw_1541 (fun t ht => by cases ht; exact Or.inl ⟨_, rfl, rfl⟩) d_293_1974) rfl rfl
theorem ki_293_1973 : js_OkG 293 1973 (o_lI 100 1974) := js_St.okG (st_lI d_293_1973) (fun _ _ _ _ _ => rfl)
theorem ki_293_1972 : js_OkG 293 1972 (o_b2 (fun x y => x + y) 1973) := js_St.okG (st_iadd d_293_1972) (fun _ _ _ _ _ => rfl)
theorem ki_293_1971 : js_OkG 293 1971 (o_ic 3 1972) := js_St.okG (st_iconst rfl d_293_1971) (fun _ _ _ _ _ => rfl)
theorem ki_293_1969 : js_OkG 293 1969 (o_il 5 1971) := js_St.okG (st_iload d_293_1969) (fun _ _ _ _ _ => rfl)
theorem ki_293_1968 : js_OkG 293 1968 (o_al 0 1969) := js_St.okG (st_aloadn rfl d_293_1968) (fun _ _ _ _ _ => rfl)
theorem ki_293_1998 : js_OkG 293 1998 (o_il 7 2000) := js_St.okG (st_iload d_293_1998) (fun _ _ _ _ _ => rfl)
theorem ki_293_1997 : js_OkG 293 1997 (o_lL 102 1998) := js_St.okG (st_lL d_293_1997) (fun _ _ _ _ _ => rfl)
theorem ki_293_1996 : js_OkG 293 1996 (o_ic 0 1997) := js_St.okG (st_iconst rfl d_293_1996) (fun _ _ _ _ _ => rfl)
theorem ki_293_1995 : js_OkG 293 1995 (o_al 3 1996) := js_St.okG (st_aloadn rfl d_293_1995) (fun _ _ _ _ _ => rfl)
theorem ki_293_1992 : js_OkG 293 1992 (o_ne 2007 1995) := js_St.okG (st_ifne (by decide) d_293_1992) (fun _ _ _ _ _ => rfl)
theorem ki_293_1990 : js_OkG 293 1990 (o_il 6 1992) := js_St.okG (st_iload d_293_1990) (fun _ _ _ _ _ => rfl)
theorem ki_293_1989 : js_OkG 293 1989 (o_rZ) := og_rZ d_293_1989
theorem ki_293_1988 : js_OkG 293 1988 (o_ic 0 1989) := js_St.okG (st_iconst rfl d_293_1988) (fun _ _ _ _ _ => rfl)
theorem ki_293_1985 : js_OkG 293 1985 (o_ceq 1990 1988) := js_St.okG (st_iceq (by decide) d_293_1985) (fun _ _ _ _ _ => rfl)
theorem ki_293_2015 : js_OkG 293 2015 (o_cI 213 1 9 2018) := og_cI (site_V kk_293_213 (by decide) kw_1592 kw_1593 kw_1594 (fun t ht => by cases ht; exact Or.inl ⟨_, rfl, rfl⟩) d_293_2015) rfl rfl
theorem ki_293_2014 : js_OkG 293 2014 (o_al 2 2015) := js_St.okG (st_aloadn rfl d_293_2014) (fun _ _ _ _ _ => rfl)
theorem ki_293_2011 : js_OkG 293 2011 (o_cI 94 1 8 2014) := og_cI (site_V kk_293_94 (by decide) kw_621 kw_622 kw_623 (fun t ht => by cases ht; exact Or.inl ⟨_, rfl, rfl⟩) d_293_2011) rfl rfl
theorem ki_293_2010 : js_OkG 293 2010 (o_al 1 2011) := js_St.okG (st_aloadn rfl d_293_2010) (fun _ _ _ _ _ => rfl)
theorem ki_293_2007 : js_OkG 293 2007 (o_go 2851) := js_St.okG (st_goto (by decide) d_293_2007) (fun _ _ _ _ _ => rfl)
theorem ki_293_2006 : js_OkG 293 2006 (o_rZ) := og_rZ d_293_2006
theorem ki_293_2005 : js_OkG 293 2005 (o_ic 0 2006) := js_St.okG (st_iconst rfl d_293_2005) (fun _ _ _ _ _ => rfl)
theorem ki_293_2002 : js_OkG 293 2002 (o_eq 2007 2005) := js_St.okG (st_ifeq (by decide) d_293_2002) (fun _ _ _ _ _ => rfl)
theorem ki_293_2001 : js_OkG 293 2001 (o_lcmp 2002) := js_St.okG (st_lcmp d_293_2001) (fun _ _ _ _ _ => rfl)
theorem ki_293_2000 : js_OkG 293 2000 (o_i2l 2001) := js_St.okG (st_i2l d_293_2000) (fun _ _ _ _ _ => rfl)
theorem ki_293_2031 : js_OkG 293 2031 (o_ceq 2851 2034) := js_St.okG (st_iceq (by decide) d_293_2031) (fun _ _ _ _ _ => rfl)
theorem ki_293_2028 : js_OkG 293 2028 (o_cI 214 1 9 2031) := og_cI (site_V kk_293_214 (by decide) kw_1600 kw_1601 kw_1602 (fun t ht => by cases ht; exact Or.inl ⟨_, rfl, rfl⟩) d_293_2028) rfl rfl
theorem ki_293_2027 : js_OkG 293 2027 (o_al 2 2028) := js_St.okG (st_aloadn rfl d_293_2027) (fun _ _ _ _ _ => rfl)
theorem ki_293_2024 : js_OkG 293 2024 (o_cI 95 1 8 2027) := og_cI (site_V kk_293_95 (by decide) kw_637 kw_638 kw_639 (fun t ht => by cases ht; exact Or.inl ⟨_, rfl, rfl⟩) d_293_2024) rfl rfl
theorem ki_293_2023 : js_OkG 293 2023 (o_al 1 2024) := js_St.okG (st_aloadn rfl d_293_2023) (fun _ _ _ _ _ => rfl)
theorem ki_293_2022 : js_OkG 293 2022 (o_rZ) := og_rZ d_293_2022
theorem ki_293_2021 : js_OkG 293 2021 (o_ic 0 2022) := js_St.okG (st_iconst rfl d_293_2021) (fun _ _ _ _ _ => rfl)
theorem ki_293_2018 : js_OkG 293 2018 (o_ceq 2851 2021) := js_St.okG (st_iceq (by decide) d_293_2018) (fun _ _ _ _ _ => rfl)
theorem ki_293_2047 : js_OkG 293 2047 (o_is 6 2049) := js_St.okG (st_istore (Nat.le_of_ble_eq_true rfl) d_293_2047) (fun _ _ _ _ _ => rfl)
theorem ki_293_2044 : js_OkG 293 2044 (o_cI 278 3 0 2047) := og_sI kB_278 rfl kw_961 kw_962 d_293_2044
theorem ki_293_2043 : js_OkG 293 2043 (o_al 3 2044) := js_St.okG (st_aloadn rfl d_293_2043) (fun _ _ _ _ _ => rfl)
theorem ki_293_2042 : js_OkG 293 2042 (o_lI 100 2043) := js_St.okG (st_lI d_293_2042) (fun _ _ _ _ _ => rfl)
theorem ki_293_2041 : js_OkG 293 2041 (o_b2 (fun x y => x + y) 2042) := js_St.okG (st_iadd d_293_2041) (fun _ _ _ _ _ => rfl)
theorem ki_293_2040 : js_OkG 293 2040 (o_ic 1 2041) := js_St.okG (st_iconst rfl d_293_2040) (fun _ _ _ _ _ => rfl)
theorem ki_293_2038 : js_OkG 293 2038 (o_il 5 2040) := js_St.okG (st_iload d_293_2038) (fun _ _ _ _ _ => rfl)
theorem ki_293_2037 : js_OkG 293 2037 (o_al 0 2038) := js_St.okG (st_aloadn rfl d_293_2037) (fun _ _ _ _ _ => rfl)
theorem ki_293_2036 : js_OkG 293 2036 (o_al 1 2037) := js_St.okG (st_aloadn rfl d_293_2036) (fun _ _ _ _ _ => rfl)
theorem ki_293_2035 : js_OkG 293 2035 (o_rZ) := og_rZ d_293_2035
theorem ki_293_2034 : js_OkG 293 2034 (o_ic 0 2035) := js_St.okG (st_iconst rfl d_293_2034) (fun _ _ _ _ _ => rfl)
theorem ki_293_2062 : js_OkG 293 2062 (o_cI 134 1 9 2065) := og_cI (site_V kk_293_134 (by decide) kw_1285 kw_1286 kw_1287 (fun t ht => by cases ht; exact Or.inl ⟨_, rfl, rfl⟩) d_293_2062) rfl rfl
theorem ki_293_2061 : js_OkG 293 2061 (o_al 2 2062) := js_St.okG (st_aloadn rfl d_293_2061) (fun _ _ _ _ _ => rfl)
theorem ki_293_2059 : js_OkG 293 2059 (o_is 7 2061) := js_St.okG (st_istore (Nat.le_of_ble_eq_true rfl) d_293_2059) (fun _ _ _ _ _ => rfl)
theorem ki_293_2056 : js_OkG 293 2056 (o_cI 215 2 9 2059) := og_cI (site_V kk_293_215 (by decide) kw_1605 kw_1606 kw_1607 (fun t ht => by cases ht; exact Or.inl ⟨_, rfl, rfl⟩) d_293_2056) rfl rfl
theorem ki_293_2055 : js_OkG 293 2055 (o_lI 100 2056) := js_St.okG (st_lI d_293_2055) (fun _ _ _ _ _ => rfl)
theorem ki_293_2054 : js_OkG 293 2054 (o_b2 (fun x y => x + y) 2055) := js_St.okG (st_iadd d_293_2054) (fun _ _ _ _ _ => rfl)
theorem ki_293_2053 : js_OkG 293 2053 (o_ic 1 2054) := js_St.okG (st_iconst rfl d_293_2053) (fun _ _ _ _ _ => rfl)
theorem ki_293_2051 : js_OkG 293 2051 (o_il 5 2053) := js_St.okG (st_iload d_293_2051) (fun _ _ _ _ _ => rfl)
theorem ki_293_2050 : js_OkG 293 2050 (o_al 0 2051) := js_St.okG (st_aloadn rfl d_293_2050) (fun _ _ _ _ _ => rfl)
theorem ki_293_2049 : js_OkG 293 2049 (o_al 2 2050) := js_St.okG (st_aloadn rfl d_293_2049) (fun _ _ _ _ _ => rfl)
theorem ki_293_2079 : js_OkG 293 2079 (o_lL 102 2080) := js_St.okG (st_lL d_293_2079) (fun _ _ _ _ _ => rfl)
theorem ki_293_2078 : js_OkG 293 2078 (o_ic 0 2079) := js_St.okG (st_iconst rfl d_293_2078) (fun _ _ _ _ _ => rfl)
theorem ki_293_2077 : js_OkG 293 2077 (o_al 3 2078) := js_St.okG (st_aloadn rfl d_293_2077) (fun _ _ _ _ _ => rfl)
theorem ki_293_2074 : js_OkG 293 2074 (o_ne 2089 2077) := js_St.okG (st_ifne (by decide) d_293_2074) (fun _ _ _ _ _ => rfl)
theorem ki_293_2072 : js_OkG 293 2072 (o_il 6 2074) := js_St.okG (st_iload d_293_2072) (fun _ _ _ _ _ => rfl)
theorem ki_293_2071 : js_OkG 293 2071 (o_rZ) := og_rZ d_293_2071
theorem ki_293_2070 : js_OkG 293 2070 (o_ic 0 2071) := js_St.okG (st_iconst rfl d_293_2070) (fun _ _ _ _ _ => rfl)
theorem ki_293_2067 : js_OkG 293 2067 (o_ceq 2072 2070) := js_St.okG (st_iceq (by decide) d_293_2067) (fun _ _ _ _ _ => rfl)
theorem ki_293_2065 : js_OkG 293 2065 (o_il 6 2067) := js_St.okG (st_iload d_293_2065) (fun _ _ _ _ _ => rfl)
theorem ki_293_2094 : js_OkG 293 2094 (o_il 5 2096) := js_St.okG (st_iload d_293_2094) (fun _ _ _ _ _ => rfl)
theorem ki_293_2093 : js_OkG 293 2093 (o_al 0 2094) := js_St.okG (st_aloadn rfl d_293_2093) (fun _ _ _ _ _ => rfl)
theorem ki_293_2092 : js_OkG 293 2092 (o_al 1 2093) := js_St.okG (st_aloadn rfl d_293_2092) (fun _ _ _ _ _ => rfl)
theorem ki_293_2089 : js_OkG 293 2089 (o_go 2851) := js_St.okG (st_goto (by decide) d_293_2089) (fun _ _ _ _ _ => rfl)
theorem ki_293_2088 : js_OkG 293 2088 (o_rZ) := og_rZ d_293_2088
theorem ki_293_2087 : js_OkG 293 2087 (o_ic 0 2088) := js_St.okG (st_iconst rfl d_293_2087) (fun _ _ _ _ _ => rfl)
theorem ki_293_2084 : js_OkG 293 2084 (o_eq 2089 2087) := js_St.okG (st_ifeq (by decide) d_293_2084) (fun _ _ _ _ _ => rfl)
theorem ki_293_2083 : js_OkG 293 2083 (o_lcmp 2084) := js_St.okG (st_lcmp d_293_2083) (fun _ _ _ _ _ => rfl)
theorem ki_293_2082 : js_OkG 293 2082 (o_i2l 2083) := js_St.okG (st_i2l d_293_2082) (fun _ _ _ _ _ => rfl)
theorem ki_293_2080 : js_OkG 293 2080 (o_il 7 2082) := js_St.okG (st_iload d_293_2080) (fun _ _ _ _ _ => rfl)
theorem ki_293_2111 : js_OkG 293 2111 (o_lI 100 2112) := js_St.okG (st_lI d_293_2111) (fun _ _ _ _ _ => rfl)
theorem ki_293_2110 : js_OkG 293 2110 (o_b2 (fun x y => x + y) 2111) := js_St.okG (st_iadd d_293_2110) (fun _ _ _ _ _ => rfl)
theorem ki_293_2109 : js_OkG 293 2109 (o_ic 1 2110) := js_St.okG (st_iconst rfl d_293_2109) (fun _ _ _ _ _ => rfl)
theorem ki_293_2107 : js_OkG 293 2107 (o_il 5 2109) := js_St.okG (st_iload d_293_2107) (fun _ _ _ _ _ => rfl)
theorem ki_293_2106 : js_OkG 293 2106 (o_al 0 2107) := js_St.okG (st_aloadn rfl d_293_2106) (fun _ _ _ _ _ => rfl)
theorem ki_293_2105 : js_OkG 293 2105 (o_al 2 2106) := js_St.okG (st_aloadn rfl d_293_2105) (fun _ _ _ _ _ => rfl)
theorem ki_293_2103 : js_OkG 293 2103 (o_is 6 2105) := js_St.okG (st_istore (Nat.le_of_ble_eq_true rfl) d_293_2103) (fun _ _ _ _ _ => rfl)
theorem ki_293_2100 : js_OkG 293 2100 (o_cI 279 3 0 2103) := og_sI kB_279 rfl kw_973 kw_974 d_293_2100
theorem ki_293_2099 : js_OkG 293 2099 (o_al 3 2100) := js_St.okG (st_aloadn rfl d_293_2099) (fun _ _ _ _ _ => rfl)
theorem ki_293_2098 : js_OkG 293 2098 (o_lI 100 2099) := js_St.okG (st_lI d_293_2098) (fun _ _ _ _ _ => rfl)
theorem ki_293_2097 : js_OkG 293 2097 (o_b2 (fun x y => x + y) 2098) := js_St.okG (st_iadd d_293_2097) (fun _ _ _ _ _ => rfl)
theorem ki_293_2096 : js_OkG 293 2096 (o_ic 1 2097) := js_St.okG (st_iconst rfl d_293_2096) (fun _ _ _ _ _ => rfl)
theorem ki_293_2127 : js_OkG 293 2127 (o_rZ) := og_rZ d_293_2127
theorem ki_293_2126 : js_OkG 293 2126 (o_ic 0 2127) := js_St.okG (st_iconst rfl d_293_2126) (fun _ _ _ _ _ => rfl)
theorem ki_293_2123 : js_OkG 293 2123 (o_ceq 2128 2126) := js_St.okG (st_iceq (by decide) d_293_2123) (fun _ _ _ _ _ => rfl)
theorem ki_293_2121 : js_OkG 293 2121 (o_il 6 2123) := js_St.okG (st_iload d_293_2121) (fun _ _ _ _ _ => rfl)
theorem ki_293_2118 : js_OkG 293 2118 (o_cI 134 1 9 2121) := og_cI (site_V kk_293_134 (by decide) kw_1285 kw_1286 kw_1287 (fun t ht => by cases ht; exact Or.inl ⟨_, rfl, rfl⟩) d_293_2118) rfl rfl
theorem ki_293_2117 : js_OkG 293 2117 (o_al 2 2118) := js_St.okG (st_aloadn rfl d_293_2117) (fun _ _ _ _ _ => rfl)
theorem ki_293_2115 : js_OkG 293 2115 (o_ls 7 2117) := js_St.okG (st_lstore (Nat.le_of_ble_eq_true rfl) d_293_2115) (fun _ _ _ _ _ => rfl)
theorem ki_293_2112 : js_OkG 293 2112 (o_cL 216 2 9 2115) := og_cL (site_V kk_293_216 (by decide) kw_1612 kw_1613 kw_1614 (fun t ht => by cases ht; exact Or.inl ⟨_, rfl, rfl⟩) d_293_2112) rfl rfl
theorem ki_293_2143 : js_OkG 293 2143 (o_rZ) := og_rZ d_293_2143
theorem ki_293_2142 : js_OkG 293 2142 (o_ic 0 2143) := js_St.okG (st_iconst rfl d_293_2142) (fun _ _ _ _ _ => rfl)
theorem ki_293_2139 : js_OkG 293 2139 (o_eq 2144 2142) := js_St.okG (st_ifeq (by decide) d_293_2139) (fun _ _ _ _ _ => rfl)
theorem ki_293_2138 : js_OkG 293 2138 (o_lcmp 2139) := js_St.okG (st_lcmp d_293_2138) (fun _ _ _ _ _ => rfl)
theorem ki_293_2136 : js_OkG 293 2136 (o_ll 7 2138) := js_St.okG (st_lload d_293_2136) (fun _ _ _ _ _ => rfl)
theorem ki_293_2135 : js_OkG 293 2135 (o_lL 102 2136) := js_St.okG (st_lL d_293_2135) (fun _ _ _ _ _ => rfl)
theorem ki_293_2134 : js_OkG 293 2134 (o_ic 0 2135) := js_St.okG (st_iconst rfl d_293_2134) (fun _ _ _ _ _ => rfl)
theorem ki_293_2133 : js_OkG 293 2133 (o_al 3 2134) := js_St.okG (st_aloadn rfl d_293_2133) (fun _ _ _ _ _ => rfl)
theorem ki_293_2130 : js_OkG 293 2130 (o_ne 2144 2133) := js_St.okG (st_ifne (by decide) d_293_2130) (fun _ _ _ _ _ => rfl)
theorem ki_293_2128 : js_OkG 293 2128 (o_il 6 2130) := js_St.okG (st_iload d_293_2128) (fun _ _ _ _ _ => rfl)
theorem ki_293_2158 : js_OkG 293 2158 (o_is 7 2160) := js_St.okG (st_istore (Nat.le_of_ble_eq_true rfl) d_293_2158) (fun _ _ _ _ _ => rfl)
theorem ki_293_2155 : js_OkG 293 2155 (o_cI 217 1 9 2158) := og_cI (site_V kk_293_217 (by decide) kw_1616 kw_1617 kw_1618 (fun t ht => by cases ht; exact Or.inl ⟨_, rfl, rfl⟩) d_293_2155) rfl rfl
theorem ki_293_2154 : js_OkG 293 2154 (o_al 2 2155) := js_St.okG (st_aloadn rfl d_293_2154) (fun _ _ _ _ _ => rfl)
theorem ki_293_2152 : js_OkG 293 2152 (o_is 6 2154) := js_St.okG (st_istore (Nat.le_of_ble_eq_true rfl) d_293_2152) (fun _ _ _ _ _ => rfl)
theorem ki_293_2149 : js_OkG 293 2149 (o_cI 280 2 0 2152) := og_sI kB_280 rfl kw_977 kw_978 d_293_2149
theorem ki_293_2148 : js_OkG 293 2148 (o_al 3 2149) := js_St.okG (st_aloadn rfl d_293_2148) (fun _ _ _ _ _ => rfl)
theorem ki_293_2147 : js_OkG 293 2147 (o_al 1 2148) := js_St.okG (st_aloadn rfl d_293_2147) (fun _ _ _ _ _ => rfl)
theorem ki_293_2144 : js_OkG 293 2144 (o_go 2851) := js_St.okG (st_goto (by decide) d_293_2144) (fun _ _ _ _ _ => rfl)
theorem ki_293_2173 : js_OkG 293 2173 (o_ne 2188 2176) := js_St.okG (st_ifne (by decide) d_293_2173) (fun _ _ _ _ _ => rfl)
theorem ki_293_2171 : js_OkG 293 2171 (o_il 6 2173) := js_St.okG (st_iload d_293_2171) (fun _ _ _ _ _ => rfl)
theorem ki_293_2170 : js_OkG 293 2170 (o_rZ) := og_rZ d_293_2170
theorem ki_293_2169 : js_OkG 293 2169 (o_ic 0 2170) := js_St.okG (st_iconst rfl d_293_2169) (fun _ _ _ _ _ => rfl)
theorem ki_293_2166 : js_OkG 293 2166 (o_ceq 2171 2169) := js_St.okG (st_iceq (by decide) d_293_2166) (fun _ _ _ _ _ => rfl)
theorem ki_293_2164 : js_OkG 293 2164 (o_il 6 2166) := js_St.okG (st_iload d_293_2164) (fun _ _ _ _ _ => rfl)
theorem ki_293_2161 : js_OkG 293 2161 (o_cI 134 1 9 2164) := og_cI (site_V kk_293_134 (by decide) kw_1285 kw_1286 kw_1287 (fun t ht => by cases ht; exact Or.inl ⟨_, rfl, rfl⟩) d_293_2161) rfl rfl
theorem ki_293_2160 : js_OkG 293 2160 (o_al 2 2161) := js_St.okG (st_aloadn rfl d_293_2160) (fun _ _ _ _ _ => rfl)
theorem ki_293_2191 : js_OkG 293 2191 (o_al 1 2192) := js_St.okG (st_aloadn rfl d_293_2191) (fun _ _ _ _ _ => rfl)
theorem ki_293_2188 : js_OkG 293 2188 (o_go 2851) := js_St.okG (st_goto (by decide) d_293_2188) (fun _ _ _ _ _ => rfl)
theorem ki_293_2187 : js_OkG 293 2187 (o_rZ) := og_rZ d_293_2187
theorem ki_293_2186 : js_OkG 293 2186 (o_ic 0 2187) := js_St.okG (st_iconst rfl d_293_2186) (fun _ _ _ _ _ => rfl)
theorem ki_293_2183 : js_OkG 293 2183 (o_eq 2188 2186) := js_St.okG (st_ifeq (by decide) d_293_2183) (fun _ _ _ _ _ => rfl)
theorem ki_293_2182 : js_OkG 293 2182 (o_lcmp 2183) := js_St.okG (st_lcmp d_293_2182) (fun _ _ _ _ _ => rfl)
theorem ki_293_2181 : js_OkG 293 2181 (o_i2l 2182) := js_St.okG (st_i2l d_293_2181) (fun _ _ _ _ _ => rfl)
theorem ki_293_2179 : js_OkG 293 2179 (o_il 7 2181) := js_St.okG (st_iload d_293_2179) (fun _ _ _ _ _ => rfl)
theorem ki_293_2178 : js_OkG 293 2178 (o_lL 102 2179) := js_St.okG (st_lL d_293_2178) (fun _ _ _ _ _ => rfl)
theorem ki_293_2177 : js_OkG 293 2177 (o_ic 0 2178) := js_St.okG (st_iconst rfl d_293_2177) (fun _ _ _ _ _ => rfl)
theorem ki_293_2176 : js_OkG 293 2176 (o_al 3 2177) := js_St.okG (st_aloadn rfl d_293_2176) (fun _ _ _ _ _ => rfl)
theorem ki_293_2206 : js_OkG 293 2206 (o_cI 134 1 9 2209) := og_cI (site_V kk_293_134 (by decide) kw_1285 kw_1286 kw_1287 (fun t ht => by cases ht; exact Or.inl ⟨_, rfl, rfl⟩) d_293_2206) rfl rfl
theorem ki_293_2205 : js_OkG 293 2205 (o_al 2 2206) := js_St.okG (st_aloadn rfl d_293_2205) (fun _ _ _ _ _ => rfl)
theorem ki_293_2203 : js_OkG 293 2203 (o_fs 7 2205) := js_St.okG (st_fstore (Nat.le_of_ble_eq_true rfl) d_293_2203) (fun _ _ _ _ _ => rfl)
theorem ki_293_2200 : js_OkG 293 2200 (o_cF 218 1 9 2203) := og_cF (site_V kk_293_218 (by decide) kw_1620 kw_1621 kw_1622 (fun t ht => by cases ht; exact Or.inl ⟨_, rfl, rfl⟩) d_293_2200) rfl rfl
theorem ki_293_2199 : js_OkG 293 2199 (o_al 2 2200) := js_St.okG (st_aloadn rfl d_293_2199) (fun _ _ _ _ _ => rfl)
theorem ki_293_2197 : js_OkG 293 2197 (o_is 6 2199) := js_St.okG (st_istore (Nat.le_of_ble_eq_true rfl) d_293_2197) (fun _ _ _ _ _ => rfl)
theorem ki_293_2194 : js_OkG 293 2194 (o_cI 281 2 0 2197) := og_sI kB_281 rfl kw_991 kw_992 d_293_2194
theorem ki_293_2192 : js_OkG 293 2192 (o_al 4 2194) := js_St.okG (st_aload d_293_2192) (fun _ _ _ _ _ => rfl)
theorem ki_293_2223 : js_OkG 293 2223 (o_ic 0 2224) := js_St.okG (st_iconst rfl d_293_2223) (fun _ _ _ _ _ => rfl)
theorem ki_293_2221 : js_OkG 293 2221 (o_al 4 2223) := js_St.okG (st_aload d_293_2221) (fun _ _ _ _ _ => rfl)
theorem ki_293_2218 : js_OkG 293 2218 (o_ne 2254 2221) := js_St.okG (st_ifne (by decide) d_293_2218) (fun _ _ _ _ _ => rfl)
theorem ki_293_2216 : js_OkG 293 2216 (o_il 6 2218) := js_St.okG (st_iload d_293_2216) (fun _ _ _ _ _ => rfl)
theorem ki_293_2215 : js_OkG 293 2215 (o_rZ) := og_rZ d_293_2215
theorem ki_293_2214 : js_OkG 293 2214 (o_ic 0 2215) := js_St.okG (st_iconst rfl d_293_2214) (fun _ _ _ _ _ => rfl)
theorem ki_293_2211 : js_OkG 293 2211 (o_ceq 2216 2214) := js_St.okG (st_iceq (by decide) d_293_2211) (fun _ _ _ _ _ => rfl)
theorem ki_293_2209 : js_OkG 293 2209 (o_il 6 2211) := js_St.okG (st_iload d_293_2209) (fun _ _ _ _ _ => rfl)
theorem ki_293_2239 : js_OkG 293 2239 (o_lD 103 2240) := js_St.okG (st_lD d_293_2239) (fun _ _ _ _ _ => rfl)
theorem ki_293_2238 : js_OkG 293 2238 (o_ic 0 2239) := js_St.okG (st_iconst rfl d_293_2238) (fun _ _ _ _ _ => rfl)
theorem ki_293_2236 : js_OkG 293 2236 (o_al 4 2238) := js_St.okG (st_aload d_293_2236) (fun _ _ _ _ _ => rfl)
theorem ki_293_2235 : js_OkG 293 2235 (o_lD 103 2236) := js_St.okG (st_lD d_293_2235) (fun _ _ _ _ _ => rfl)
theorem ki_293_2234 : js_OkG 293 2234 (o_ic 0 2235) := js_St.okG (st_iconst rfl d_293_2234) (fun _ _ _ _ _ => rfl)
theorem ki_293_2232 : js_OkG 293 2232 (o_al 4 2234) := js_St.okG (st_aload d_293_2232) (fun _ _ _ _ _ => rfl)
theorem ki_293_2229 : js_OkG 293 2229 (o_eq 2254 2232) := js_St.okG (st_ifeq (by decide) d_293_2229) (fun _ _ _ _ _ => rfl)
theorem ki_293_2228 : js_OkG 293 2228 (o_dcmp .l 2229) := js_St.okG (st_dcmp d_293_2228) (fun _ _ _ _ _ => rfl)
theorem ki_293_2227 : js_OkG 293 2227 (o_f2d 2228) := js_St.okG (st_f2d d_293_2227) (fun _ _ _ _ _ => rfl)
theorem ki_293_2225 : js_OkG 293 2225 (o_fl 7 2227) := js_St.okG (st_fload d_293_2225) (fun _ _ _ _ _ => rfl)
theorem ki_293_2224 : js_OkG 293 2224 (o_lD 103 2225) := js_St.okG (st_lD d_293_2224) (fun _ _ _ _ _ => rfl)
theorem ki_293_2254 : js_OkG 293 2254 (o_go 2851) := js_St.okG (st_goto (by decide) d_293_2254) (fun _ _ _ _ _ => rfl)
theorem ki_293_2253 : js_OkG 293 2253 (o_rZ) := og_rZ d_293_2253
theorem ki_293_2252 : js_OkG 293 2252 (o_ic 0 2253) := js_St.okG (st_iconst rfl d_293_2252) (fun _ _ _ _ _ => rfl)
theorem ki_293_2249 : js_OkG 293 2249 (o_ne 2254 2252) := js_St.okG (st_ifne (by decide) d_293_2249) (fun _ _ _ _ _ => rfl)
theorem ki_293_2248 : js_OkG 293 2248 (o_fcmp .l 2249) := js_St.okG (st_fcmp d_293_2248) (fun _ _ _ _ _ => rfl)
theorem ki_293_2246 : js_OkG 293 2246 (o_fl 7 2248) := js_St.okG (st_fload d_293_2246) (fun _ _ _ _ _ => rfl)
theorem ki_293_2244 : js_OkG 293 2244 (o_fl 7 2246) := js_St.okG (st_fload d_293_2244) (fun _ _ _ _ _ => rfl)
theorem ki_293_2241 : js_OkG 293 2241 (o_eq 2252 2244) := js_St.okG (st_ifeq (by decide) d_293_2241) (fun _ _ _ _ _ => rfl)
theorem ki_293_2240 : js_OkG 293 2240 (o_dcmp .l 2241) := js_St.okG (st_dcmp d_293_2240) (fun _ _ _ _ _ => rfl)
theorem ki_293_2271 : js_OkG 293 2271 (o_cI 134 1 9 2274) := og_cI (site_V kk_293_134 (by decide) kw_1285 kw_1286 kw_1287 (fun t ht => by cases ht; exact Or.inl ⟨_, rfl, rfl⟩) d_293_2271) rfl rfl
theorem ki_293_2270 : js_OkG 293 2270 (o_al 2 2271) := js_St.okG (st_aloadn rfl d_293_2270) (fun _ _ _ _ _ => rfl)
theorem ki_293_2268 : js_OkG 293 2268 (o_is 7 2270) := js_St.okG (st_istore (Nat.le_of_ble_eq_true rfl) d_293_2268) (fun _ _ _ _ _ => rfl)
theorem ki_293_2265 : js_OkG 293 2265 (o_cI 219 1 9 2268) := og_cI (site_V kk_293_219 (by decide) kw_1624 kw_1625 kw_1626 (fun t ht => by cases ht; exact Or.inl ⟨_, rfl, rfl⟩) d_293_2265) rfl rfl
theorem ki_293_2264 : js_OkG 293 2264 (o_al 2 2265) := js_St.okG (st_aloadn rfl d_293_2264) (fun _ _ _ _ _ => rfl)
theorem ki_293_2262 : js_OkG 293 2262 (o_is 6 2264) := js_St.okG (st_istore (Nat.le_of_ble_eq_true rfl) d_293_2262) (fun _ _ _ _ _ => rfl)
theorem ki_293_2259 : js_OkG 293 2259 (o_cI 282 2 0 2262) := og_sI kB_282 rfl kw_1015 kw_1016 d_293_2259
theorem ki_293_2258 : js_OkG 293 2258 (o_al 3 2259) := js_St.okG (st_aloadn rfl d_293_2258) (fun _ _ _ _ _ => rfl)
theorem ki_293_2257 : js_OkG 293 2257 (o_al 1 2258) := js_St.okG (st_aloadn rfl d_293_2257) (fun _ _ _ _ _ => rfl)
theorem ki_293_2287 : js_OkG 293 2287 (o_ic 0 2288) := js_St.okG (st_iconst rfl d_293_2287) (fun _ _ _ _ _ => rfl)
theorem ki_293_2286 : js_OkG 293 2286 (o_al 3 2287) := js_St.okG (st_aloadn rfl d_293_2286) (fun _ _ _ _ _ => rfl)
theorem ki_293_2283 : js_OkG 293 2283 (o_ne 2298 2286) := js_St.okG (st_ifne (by decide) d_293_2283) (fun _ _ _ _ _ => rfl)
theorem ki_293_2281 : js_OkG 293 2281 (o_il 6 2283) := js_St.okG (st_iload d_293_2281) (fun _ _ _ _ _ => rfl)
theorem ki_293_2280 : js_OkG 293 2280 (o_rZ) := og_rZ d_293_2280
theorem ki_293_2279 : js_OkG 293 2279 (o_ic 0 2280) := js_St.okG (st_iconst rfl d_293_2279) (fun _ _ _ _ _ => rfl)
theorem ki_293_2276 : js_OkG 293 2276 (o_ceq 2281 2279) := js_St.okG (st_iceq (by decide) d_293_2276) (fun _ _ _ _ _ => rfl)
theorem ki_293_2274 : js_OkG 293 2274 (o_il 6 2276) := js_St.okG (st_iload d_293_2274) (fun _ _ _ _ _ => rfl)
theorem ki_293_2302 : js_OkG 293 2302 (o_al 4 2304) := js_St.okG (st_aload d_293_2302) (fun _ _ _ _ _ => rfl)
theorem ki_293_2301 : js_OkG 293 2301 (o_al 1 2302) := js_St.okG (st_aloadn rfl d_293_2301) (fun _ _ _ _ _ => rfl)
theorem ki_293_2298 : js_OkG 293 2298 (o_go 2851) := js_St.okG (st_goto (by decide) d_293_2298) (fun _ _ _ _ _ => rfl)
theorem ki_293_2297 : js_OkG 293 2297 (o_rZ) := og_rZ d_293_2297
theorem ki_293_2296 : js_OkG 293 2296 (o_ic 0 2297) := js_St.okG (st_iconst rfl d_293_2296) (fun _ _ _ _ _ => rfl)
theorem ki_293_2293 : js_OkG 293 2293 (o_eq 2298 2296) := js_St.okG (st_ifeq (by decide) d_293_2293) (fun _ _ _ _ _ => rfl)
theorem ki_293_2292 : js_OkG 293 2292 (o_lcmp 2293) := js_St.okG (st_lcmp d_293_2292) (fun _ _ _ _ _ => rfl)
theorem ki_293_2291 : js_OkG 293 2291 (o_i2l 2292) := js_St.okG (st_i2l d_293_2291) (fun _ _ _ _ _ => rfl)
theorem ki_293_2289 : js_OkG 293 2289 (o_il 7 2291) := js_St.okG (st_iload d_293_2289) (fun _ _ _ _ _ => rfl)
theorem ki_293_2288 : js_OkG 293 2288 (o_lL 102 2289) := js_St.okG (st_lL d_293_2288) (fun _ _ _ _ _ => rfl)
theorem ki_293_2319 : js_OkG 293 2319 (o_il 6 2321) := js_St.okG (st_iload d_293_2319) (fun _ _ _ _ _ => rfl)
theorem ki_293_2316 : js_OkG 293 2316 (o_cI 134 1 9 2319) := og_cI (site_V kk_293_134 (by decide) kw_1285 kw_1286 kw_1287 (fun t ht => by cases ht; exact Or.inl ⟨_, rfl, rfl⟩) d_293_2316) rfl rfl
theorem ki_293_2315 : js_OkG 293 2315 (o_al 2 2316) := js_St.okG (st_aloadn rfl d_293_2315) (fun _ _ _ _ _ => rfl)
theorem ki_293_2313 : js_OkG 293 2313 (o_ds 7 2315) := js_St.okG (st_dstore (Nat.le_of_ble_eq_true rfl) d_293_2313) (fun _ _ _ _ _ => rfl)
theorem ki_293_2310 : js_OkG 293 2310 (o_cD 220 1 9 2313) := og_cD (site_V kk_293_220 (by decide) kw_1639 kw_1640 kw_1641 (fun t ht => by cases ht; exact Or.inl ⟨_, rfl, rfl⟩) d_293_2310) rfl rfl
theorem ki_293_2309 : js_OkG 293 2309 (o_al 2 2310) := js_St.okG (st_aloadn rfl d_293_2309) (fun _ _ _ _ _ => rfl)
theorem ki_293_2307 : js_OkG 293 2307 (o_is 6 2309) := js_St.okG (st_istore (Nat.le_of_ble_eq_true rfl) d_293_2307) (fun _ _ _ _ _ => rfl)
theorem ki_293_2304 : js_OkG 293 2304 (o_cI 283 2 0 2307) := og_sI kB_283 rfl kw_1027 kw_1028 d_293_2304
theorem ki_293_2335 : js_OkG 293 2335 (o_dl 7 2337) := js_St.okG (st_dload d_293_2335) (fun _ _ _ _ _ => rfl)
theorem ki_293_2334 : js_OkG 293 2334 (o_lD 103 2335) := js_St.okG (st_lD d_293_2334) (fun _ _ _ _ _ => rfl)
theorem ki_293_2333 : js_OkG 293 2333 (o_ic 0 2334) := js_St.okG (st_iconst rfl d_293_2333) (fun _ _ _ _ _ => rfl)
theorem ki_293_2331 : js_OkG 293 2331 (o_al 4 2333) := js_St.okG (st_aload d_293_2331) (fun _ _ _ _ _ => rfl)
theorem ki_293_2328 : js_OkG 293 2328 (o_ne 2363 2331) := js_St.okG (st_ifne (by decide) d_293_2328) (fun _ _ _ _ _ => rfl)
theorem ki_293_2326 : js_OkG 293 2326 (o_il 6 2328) := js_St.okG (st_iload d_293_2326) (fun _ _ _ _ _ => rfl)
theorem ki_293_2325 : js_OkG 293 2325 (o_rZ) := og_rZ d_293_2325
theorem ki_293_2324 : js_OkG 293 2324 (o_ic 0 2325) := js_St.okG (st_iconst rfl d_293_2324) (fun _ _ _ _ _ => rfl)
theorem ki_293_2321 : js_OkG 293 2321 (o_ceq 2326 2324) := js_St.okG (st_iceq (by decide) d_293_2321) (fun _ _ _ _ _ => rfl)
theorem ki_293_2350 : js_OkG 293 2350 (o_eq 2361 2353) := js_St.okG (st_ifeq (by decide) d_293_2350) (fun _ _ _ _ _ => rfl)
theorem ki_293_2349 : js_OkG 293 2349 (o_dcmp .l 2350) := js_St.okG (st_dcmp d_293_2349) (fun _ _ _ _ _ => rfl)
theorem ki_293_2348 : js_OkG 293 2348 (o_lD 103 2349) := js_St.okG (st_lD d_293_2348) (fun _ _ _ _ _ => rfl)
theorem ki_293_2347 : js_OkG 293 2347 (o_ic 0 2348) := js_St.okG (st_iconst rfl d_293_2347) (fun _ _ _ _ _ => rfl)
theorem ki_293_2345 : js_OkG 293 2345 (o_al 4 2347) := js_St.okG (st_aload d_293_2345) (fun _ _ _ _ _ => rfl)
theorem ki_293_2344 : js_OkG 293 2344 (o_lD 103 2345) := js_St.okG (st_lD d_293_2344) (fun _ _ _ _ _ => rfl)
theorem ki_293_2343 : js_OkG 293 2343 (o_ic 0 2344) := js_St.okG (st_iconst rfl d_293_2343) (fun _ _ _ _ _ => rfl)
theorem ki_293_2341 : js_OkG 293 2341 (o_al 4 2343) := js_St.okG (st_aload d_293_2341) (fun _ _ _ _ _ => rfl)
theorem ki_293_2338 : js_OkG 293 2338 (o_eq 2363 2341) := js_St.okG (st_ifeq (by decide) d_293_2338) (fun _ _ _ _ _ => rfl)
theorem ki_293_2337 : js_OkG 293 2337 (o_dcmp .l 2338) := js_St.okG (st_dcmp d_293_2337) (fun _ _ _ _ _ => rfl)
theorem ki_293_2367 : js_OkG 293 2367 (o_cI 102 1 8 2370) := og_cI (site_V kk_293_102 (by decide) kw_654 kw_655 kw_656 (fun t ht => by cases ht; exact Or.inl ⟨_, rfl, rfl⟩) d_293_2367) rfl rfl
theorem ki_293_2366 : js_OkG 293 2366 (o_al 1 2367) := js_St.okG (st_aloadn rfl d_293_2366) (fun _ _ _ _ _ => rfl)
theorem ki_293_2363 : js_OkG 293 2363 (o_go 2851) := js_St.okG (st_goto (by decide) d_293_2363) (fun _ _ _ _ _ => rfl)
theorem ki_293_2362 : js_OkG 293 2362 (o_rZ) := og_rZ d_293_2362
theorem ki_293_2361 : js_OkG 293 2361 (o_ic 0 2362) := js_St.okG (st_iconst rfl d_293_2361) (fun _ _ _ _ _ => rfl)
theorem ki_293_2358 : js_OkG 293 2358 (o_ne 2363 2361) := js_St.okG (st_ifne (by decide) d_293_2358) (fun _ _ _ _ _ => rfl)
theorem ki_293_2357 : js_OkG 293 2357 (o_dcmp .l 2358) := js_St.okG (st_dcmp d_293_2357) (fun _ _ _ _ _ => rfl)
theorem ki_293_2355 : js_OkG 293 2355 (o_dl 7 2357) := js_St.okG (st_dload d_293_2355) (fun _ _ _ _ _ => rfl)
theorem ki_293_2353 : js_OkG 293 2353 (o_dl 7 2355) := js_St.okG (st_dload d_293_2353) (fun _ _ _ _ _ => rfl)
theorem ki_293_2383 : js_OkG 293 2383 (o_ic 1 2384) := js_St.okG (st_iconst rfl d_293_2383) (fun _ _ _ _ _ => rfl)
theorem ki_293_2381 : js_OkG 293 2381 (o_il 5 2383) := js_St.okG (st_iload d_293_2381) (fun _ _ _ _ _ => rfl)
theorem ki_293_2380 : js_OkG 293 2380 (o_al 0 2381) := js_St.okG (st_aloadn rfl d_293_2380) (fun _ _ _ _ _ => rfl)
theorem ki_293_2379 : js_OkG 293 2379 (o_al 1 2380) := js_St.okG (st_aloadn rfl d_293_2379) (fun _ _ _ _ _ => rfl)
theorem ki_293_2378 : js_OkG 293 2378 (o_rZ) := og_rZ d_293_2378
theorem ki_293_2377 : js_OkG 293 2377 (o_ic 0 2378) := js_St.okG (st_iconst rfl d_293_2377) (fun _ _ _ _ _ => rfl)
theorem ki_293_2374 : js_OkG 293 2374 (o_ceq 2851 2377) := js_St.okG (st_iceq (by decide) d_293_2374) (fun _ _ _ _ _ => rfl)
theorem ki_293_2371 : js_OkG 293 2371 (o_cI 221 1 9 2374) := og_cI (site_V kk_293_221 (by decide) kw_1643 kw_1644 kw_1645 (fun t ht => by cases ht; exact Or.inl ⟨_, rfl, rfl⟩) d_293_2371) rfl rfl
theorem ki_293_2370 : js_OkG 293 2370 (o_al 2 2371) := js_St.okG (st_aloadn rfl d_293_2370) (fun _ _ _ _ _ => rfl)
theorem ki_293_2399 : js_OkG 293 2399 (o_cI 223 2 9 2402) := og_cI (site_V kk_293_223 (by decide) kw_1647 kw_1648 kw_1649 (fun t ht => by cases ht; exact Or.inl ⟨_, rfl, rfl⟩) d_293_2399) rfl rfl
theorem ki_293_2398 : js_OkG 293 2398 (o_lI 100 2399) := js_St.okG (st_lI d_293_2398) (fun _ _ _ _ _ => rfl)
theorem ki_293_2397 : js_OkG 293 2397 (o_b2 (fun x y => x + y) 2398) := js_St.okG (st_iadd d_293_2397) (fun _ _ _ _ _ => rfl)
theorem ki_293_2396 : js_OkG 293 2396 (o_ic 1 2397) := js_St.okG (st_iconst rfl d_293_2396) (fun _ _ _ _ _ => rfl)
theorem ki_293_2394 : js_OkG 293 2394 (o_il 5 2396) := js_St.okG (st_iload d_293_2394) (fun _ _ _ _ _ => rfl)
theorem ki_293_2393 : js_OkG 293 2393 (o_al 0 2394) := js_St.okG (st_aloadn rfl d_293_2393) (fun _ _ _ _ _ => rfl)
theorem ki_293_2392 : js_OkG 293 2392 (o_al 2 2393) := js_St.okG (st_aloadn rfl d_293_2392) (fun _ _ _ _ _ => rfl)
theorem ki_293_2390 : js_OkG 293 2390 (o_is 6 2392) := js_St.okG (st_istore (Nat.le_of_ble_eq_true rfl) d_293_2390) (fun _ _ _ _ _ => rfl)
theorem ki_293_2387 : js_OkG 293 2387 (o_cI 284 3 0 2390) := og_sI kB_284 rfl kw_1034 kw_1035 d_293_2387
theorem ki_293_2386 : js_OkG 293 2386 (o_al 3 2387) := js_St.okG (st_aloadn rfl d_293_2386) (fun _ _ _ _ _ => rfl)
theorem ki_293_2385 : js_OkG 293 2385 (o_lI 100 2386) := js_St.okG (st_lI d_293_2385) (fun _ _ _ _ _ => rfl)
theorem ki_293_2384 : js_OkG 293 2384 (o_b2 (fun x y => x + y) 2385) := js_St.okG (st_iadd d_293_2384) (fun _ _ _ _ _ => rfl)
theorem ki_293_2415 : js_OkG 293 2415 (o_il 6 2417) := js_St.okG (st_iload d_293_2415) (fun _ _ _ _ _ => rfl)
theorem ki_293_2414 : js_OkG 293 2414 (o_rZ) := og_rZ d_293_2414
theorem ki_293_2413 : js_OkG 293 2413 (o_ic 0 2414) := js_St.okG (st_iconst rfl d_293_2413) (fun _ _ _ _ _ => rfl)
theorem ki_293_2410 : js_OkG 293 2410 (o_ceq 2415 2413) := js_St.okG (st_iceq (by decide) d_293_2410) (fun _ _ _ _ _ => rfl)
theorem ki_293_2408 : js_OkG 293 2408 (o_il 6 2410) := js_St.okG (st_iload d_293_2408) (fun _ _ _ _ _ => rfl)
theorem ki_293_2405 : js_OkG 293 2405 (o_cI 134 1 9 2408) := og_cI (site_V kk_293_134 (by decide) kw_1285 kw_1286 kw_1287 (fun t ht => by cases ht; exact Or.inl ⟨_, rfl, rfl⟩) d_293_2405) rfl rfl
theorem ki_293_2404 : js_OkG 293 2404 (o_al 2 2405) := js_St.okG (st_aloadn rfl d_293_2404) (fun _ _ _ _ _ => rfl)
theorem ki_293_2402 : js_OkG 293 2402 (o_is 7 2404) := js_St.okG (st_istore (Nat.le_of_ble_eq_true rfl) d_293_2402) (fun _ _ _ _ _ => rfl)
theorem ki_293_2431 : js_OkG 293 2431 (o_rZ) := og_rZ d_293_2431
theorem ki_293_2430 : js_OkG 293 2430 (o_ic 0 2431) := js_St.okG (st_iconst rfl d_293_2430) (fun _ _ _ _ _ => rfl)
theorem ki_293_2427 : js_OkG 293 2427 (o_eq 2432 2430) := js_St.okG (st_ifeq (by decide) d_293_2427) (fun _ _ _ _ _ => rfl)
theorem ki_293_2426 : js_OkG 293 2426 (o_lcmp 2427) := js_St.okG (st_lcmp d_293_2426) (fun _ _ _ _ _ => rfl)
theorem ki_293_2425 : js_OkG 293 2425 (o_i2l 2426) := js_St.okG (st_i2l d_293_2425) (fun _ _ _ _ _ => rfl)
theorem ki_293_2423 : js_OkG 293 2423 (o_il 7 2425) := js_St.okG (st_iload d_293_2423) (fun _ _ _ _ _ => rfl)
theorem ki_293_2422 : js_OkG 293 2422 (o_lL 102 2423) := js_St.okG (st_lL d_293_2422) (fun _ _ _ _ _ => rfl)
theorem ki_293_2421 : js_OkG 293 2421 (o_ic 0 2422) := js_St.okG (st_iconst rfl d_293_2421) (fun _ _ _ _ _ => rfl)
theorem ki_293_2420 : js_OkG 293 2420 (o_al 3 2421) := js_St.okG (st_aloadn rfl d_293_2420) (fun _ _ _ _ _ => rfl)
theorem ki_293_2417 : js_OkG 293 2417 (o_ne 2432 2420) := js_St.okG (st_ifne (by decide) d_293_2417) (fun _ _ _ _ _ => rfl)
theorem ki_293_2446 : js_OkG 293 2446 (o_is 6 2448) := js_St.okG (st_istore (Nat.le_of_ble_eq_true rfl) d_293_2446) (fun _ _ _ _ _ => rfl)
theorem ki_293_2443 : js_OkG 293 2443 (o_cI 285 3 0 2446) := og_sI kB_285 rfl kw_1045 kw_1046 d_293_2443
theorem ki_293_2442 : js_OkG 293 2442 (o_al 3 2443) := js_St.okG (st_aloadn rfl d_293_2442) (fun _ _ _ _ _ => rfl)
theorem ki_293_2441 : js_OkG 293 2441 (o_lI 100 2442) := js_St.okG (st_lI d_293_2441) (fun _ _ _ _ _ => rfl)
theorem ki_293_2440 : js_OkG 293 2440 (o_b2 (fun x y => x + y) 2441) := js_St.okG (st_iadd d_293_2440) (fun _ _ _ _ _ => rfl)
theorem ki_293_2439 : js_OkG 293 2439 (o_ic 1 2440) := js_St.okG (st_iconst rfl d_293_2439) (fun _ _ _ _ _ => rfl)
theorem ki_293_2437 : js_OkG 293 2437 (o_il 5 2439) := js_St.okG (st_iload d_293_2437) (fun _ _ _ _ _ => rfl)
theorem ki_293_2436 : js_OkG 293 2436 (o_al 0 2437) := js_St.okG (st_aloadn rfl d_293_2436) (fun _ _ _ _ _ => rfl)
theorem ki_293_2435 : js_OkG 293 2435 (o_al 1 2436) := js_St.okG (st_aloadn rfl d_293_2435) (fun _ _ _ _ _ => rfl)
theorem ki_293_2432 : js_OkG 293 2432 (o_go 2851) := js_St.okG (st_goto (by decide) d_293_2432) (fun _ _ _ _ _ => rfl)
theorem ki_293_2461 : js_OkG 293 2461 (o_cI 134 1 9 2464) := og_cI (site_V kk_293_134 (by decide) kw_1285 kw_1286 kw_1287 (fun t ht => by cases ht; exact Or.inl ⟨_, rfl, rfl⟩) d_293_2461) rfl rfl
theorem ki_293_2460 : js_OkG 293 2460 (o_al 2 2461) := js_St.okG (st_aloadn rfl d_293_2460) (fun _ _ _ _ _ => rfl)
theorem ki_293_2458 : js_OkG 293 2458 (o_is 7 2460) := js_St.okG (st_istore (Nat.le_of_ble_eq_true rfl) d_293_2458) (fun _ _ _ _ _ => rfl)
theorem ki_293_2455 : js_OkG 293 2455 (o_cI 224 2 9 2458) := og_cI (site_V kk_293_224 (by decide) kw_1655 kw_1656 kw_1657 (fun t ht => by cases ht; exact Or.inl ⟨_, rfl, rfl⟩) d_293_2455) rfl rfl
theorem ki_293_2454 : js_OkG 293 2454 (o_lI 100 2455) := js_St.okG (st_lI d_293_2454) (fun _ _ _ _ _ => rfl)
theorem ki_293_2453 : js_OkG 293 2453 (o_b2 (fun x y => x + y) 2454) := js_St.okG (st_iadd d_293_2453) (fun _ _ _ _ _ => rfl)
theorem ki_293_2452 : js_OkG 293 2452 (o_ic 1 2453) := js_St.okG (st_iconst rfl d_293_2452) (fun _ _ _ _ _ => rfl)
theorem ki_293_2450 : js_OkG 293 2450 (o_il 5 2452) := js_St.okG (st_iload d_293_2450) (fun _ _ _ _ _ => rfl)
theorem ki_293_2449 : js_OkG 293 2449 (o_al 0 2450) := js_St.okG (st_aloadn rfl d_293_2449) (fun _ _ _ _ _ => rfl)
theorem ki_293_2448 : js_OkG 293 2448 (o_al 2 2449) := js_St.okG (st_aloadn rfl d_293_2448) (fun _ _ _ _ _ => rfl)
theorem ki_293_2479 : js_OkG 293 2479 (o_il 7 2481) := js_St.okG (st_iload d_293_2479) (fun _ _ _ _ _ => rfl)
theorem ki_293_2478 : js_OkG 293 2478 (o_lL 102 2479) := js_St.okG (st_lL d_293_2478) (fun _ _ _ _ _ => rfl)
theorem ki_293_2477 : js_OkG 293 2477 (o_ic 0 2478) := js_St.okG (st_iconst rfl d_293_2477) (fun _ _ _ _ _ => rfl)
theorem ki_293_2476 : js_OkG 293 2476 (o_al 3 2477) := js_St.okG (st_aloadn rfl d_293_2476) (fun _ _ _ _ _ => rfl)
theorem ki_293_2473 : js_OkG 293 2473 (o_ne 2488 2476) := js_St.okG (st_ifne (by decide) d_293_2473) (fun _ _ _ _ _ => rfl)
theorem ki_293_2471 : js_OkG 293 2471 (o_il 6 2473) := js_St.okG (st_iload d_293_2471) (fun _ _ _ _ _ => rfl)
theorem ki_293_2470 : js_OkG 293 2470 (o_rZ) := og_rZ d_293_2470
theorem ki_293_2469 : js_OkG 293 2469 (o_ic 0 2470) := js_St.okG (st_iconst rfl d_293_2469) (fun _ _ _ _ _ => rfl)
theorem ki_293_2466 : js_OkG 293 2466 (o_ceq 2471 2469) := js_St.okG (st_iceq (by decide) d_293_2466) (fun _ _ _ _ _ => rfl)
theorem ki_293_2464 : js_OkG 293 2464 (o_il 6 2466) := js_St.okG (st_iload d_293_2464) (fun _ _ _ _ _ => rfl)
theorem ki_293_2495 : js_OkG 293 2495 (o_ic 1 2496) := js_St.okG (st_iconst rfl d_293_2495) (fun _ _ _ _ _ => rfl)
theorem ki_293_2493 : js_OkG 293 2493 (o_il 5 2495) := js_St.okG (st_iload d_293_2493) (fun _ _ _ _ _ => rfl)
theorem ki_293_2492 : js_OkG 293 2492 (o_al 0 2493) := js_St.okG (st_aloadn rfl d_293_2492) (fun _ _ _ _ _ => rfl)
theorem ki_293_2491 : js_OkG 293 2491 (o_al 1 2492) := js_St.okG (st_aloadn rfl d_293_2491) (fun _ _ _ _ _ => rfl)
theorem ki_293_2488 : js_OkG 293 2488 (o_go 2851) := js_St.okG (st_goto (by decide) d_293_2488) (fun _ _ _ _ _ => rfl)
theorem ki_293_2487 : js_OkG 293 2487 (o_rZ) := og_rZ d_293_2487
theorem ki_293_2486 : js_OkG 293 2486 (o_ic 0 2487) := js_St.okG (st_iconst rfl d_293_2486) (fun _ _ _ _ _ => rfl)
theorem ki_293_2483 : js_OkG 293 2483 (o_eq 2488 2486) := js_St.okG (st_ifeq (by decide) d_293_2483) (fun _ _ _ _ _ => rfl)
theorem ki_293_2482 : js_OkG 293 2482 (o_lcmp 2483) := js_St.okG (st_lcmp d_293_2482) (fun _ _ _ _ _ => rfl)
theorem ki_293_2481 : js_OkG 293 2481 (o_i2l 2482) := js_St.okG (st_i2l d_293_2481) (fun _ _ _ _ _ => rfl)
theorem ki_293_2511 : js_OkG 293 2511 (o_cI 225 2 9 2514) := og_cI (site_V kk_293_225 (by decide) kw_1659 kw_1660 kw_1661 (fun t ht => by cases ht; exact Or.inl ⟨_, rfl, rfl⟩) d_293_2511) rfl rfl
theorem ki_293_2510 : js_OkG 293 2510 (o_lI 100 2511) := js_St.okG (st_lI d_293_2510) (fun _ _ _ _ _ => rfl)
theorem ki_293_2509 : js_OkG 293 2509 (o_b2 (fun x y => x + y) 2510) := js_St.okG (st_iadd d_293_2509) (fun _ _ _ _ _ => rfl)
theorem ki_293_2508 : js_OkG 293 2508 (o_ic 1 2509) := js_St.okG (st_iconst rfl d_293_2508) (fun _ _ _ _ _ => rfl)
theorem ki_293_2506 : js_OkG 293 2506 (o_il 5 2508) := js_St.okG (st_iload d_293_2506) (fun _ _ _ _ _ => rfl)
theorem ki_293_2505 : js_OkG 293 2505 (o_al 0 2506) := js_St.okG (st_aloadn rfl d_293_2505) (fun _ _ _ _ _ => rfl)
theorem ki_293_2504 : js_OkG 293 2504 (o_al 2 2505) := js_St.okG (st_aloadn rfl d_293_2504) (fun _ _ _ _ _ => rfl)
theorem ki_293_2502 : js_OkG 293 2502 (o_is 6 2504) := js_St.okG (st_istore (Nat.le_of_ble_eq_true rfl) d_293_2502) (fun _ _ _ _ _ => rfl)
theorem ki_293_2499 : js_OkG 293 2499 (o_cI 286 3 0 2502) := og_sI kB_286 rfl kw_1055 kw_1056 d_293_2499
theorem ki_293_2498 : js_OkG 293 2498 (o_al 3 2499) := js_St.okG (st_aloadn rfl d_293_2498) (fun _ _ _ _ _ => rfl)
theorem ki_293_2497 : js_OkG 293 2497 (o_lI 100 2498) := js_St.okG (st_lI d_293_2497) (fun _ _ _ _ _ => rfl)
theorem ki_293_2496 : js_OkG 293 2496 (o_b2 (fun x y => x + y) 2497) := js_St.okG (st_iadd d_293_2496) (fun _ _ _ _ _ => rfl)
theorem ki_293_2527 : js_OkG 293 2527 (o_il 6 2529) := js_St.okG (st_iload d_293_2527) (fun _ _ _ _ _ => rfl)
theorem ki_293_2526 : js_OkG 293 2526 (o_rZ) := og_rZ d_293_2526
theorem ki_293_2525 : js_OkG 293 2525 (o_ic 0 2526) := js_St.okG (st_iconst rfl d_293_2525) (fun _ _ _ _ _ => rfl)
theorem ki_293_2522 : js_OkG 293 2522 (o_ceq 2527 2525) := js_St.okG (st_iceq (by decide) d_293_2522) (fun _ _ _ _ _ => rfl)
theorem ki_293_2520 : js_OkG 293 2520 (o_il 6 2522) := js_St.okG (st_iload d_293_2520) (fun _ _ _ _ _ => rfl)
theorem ki_293_2517 : js_OkG 293 2517 (o_cI 134 1 9 2520) := og_cI (site_V kk_293_134 (by decide) kw_1285 kw_1286 kw_1287 (fun t ht => by cases ht; exact Or.inl ⟨_, rfl, rfl⟩) d_293_2517) rfl rfl
theorem ki_293_2516 : js_OkG 293 2516 (o_al 2 2517) := js_St.okG (st_aloadn rfl d_293_2516) (fun _ _ _ _ _ => rfl)
theorem ki_293_2514 : js_OkG 293 2514 (o_is 7 2516) := js_St.okG (st_istore (Nat.le_of_ble_eq_true rfl) d_293_2514) (fun _ _ _ _ _ => rfl)
theorem ki_293_2543 : js_OkG 293 2543 (o_rZ) := og_rZ d_293_2543
theorem ki_293_2542 : js_OkG 293 2542 (o_ic 0 2543) := js_St.okG (st_iconst rfl d_293_2542) (fun _ _ _ _ _ => rfl)
theorem ki_293_2539 : js_OkG 293 2539 (o_eq 2544 2542) := js_St.okG (st_ifeq (by decide) d_293_2539) (fun _ _ _ _ _ => rfl)
theorem ki_293_2538 : js_OkG 293 2538 (o_lcmp 2539) := js_St.okG (st_lcmp d_293_2538) (fun _ _ _ _ _ => rfl)
theorem ki_293_2537 : js_OkG 293 2537 (o_i2l 2538) := js_St.okG (st_i2l d_293_2537) (fun _ _ _ _ _ => rfl)
theorem ki_293_2535 : js_OkG 293 2535 (o_il 7 2537) := js_St.okG (st_iload d_293_2535) (fun _ _ _ _ _ => rfl)
theorem ki_293_2534 : js_OkG 293 2534 (o_lL 102 2535) := js_St.okG (st_lL d_293_2534) (fun _ _ _ _ _ => rfl)
theorem ki_293_2533 : js_OkG 293 2533 (o_ic 0 2534) := js_St.okG (st_iconst rfl d_293_2533) (fun _ _ _ _ _ => rfl)
theorem ki_293_2532 : js_OkG 293 2532 (o_al 3 2533) := js_St.okG (st_aloadn rfl d_293_2532) (fun _ _ _ _ _ => rfl)
theorem ki_293_2529 : js_OkG 293 2529 (o_ne 2544 2532) := js_St.okG (st_ifne (by decide) d_293_2529) (fun _ _ _ _ _ => rfl)
theorem ki_293_2559 : js_OkG 293 2559 (o_is 6 2561) := js_St.okG (st_istore (Nat.le_of_ble_eq_true rfl) d_293_2559) (fun _ _ _ _ _ => rfl)
theorem ki_293_2556 : js_OkG 293 2556 (o_cI 287 3 0 2559) := og_sI kB_287 rfl kw_1063 kw_1064 d_293_2556
theorem ki_293_2555 : js_OkG 293 2555 (o_al 3 2556) := js_St.okG (st_aloadn rfl d_293_2555) (fun _ _ _ _ _ => rfl)
theorem ki_293_2554 : js_OkG 293 2554 (o_u (fun x => (x.toUInt32 % 65536).toInt32) 2555) := js_St.okG (st_i2c d_293_2554) (fun _ _ _ _ _ => rfl)
theorem ki_293_2553 : js_OkG 293 2553 (o_lI 100 2554) := js_St.okG (st_lI d_293_2553) (fun _ _ _ _ _ => rfl)
theorem ki_293_2552 : js_OkG 293 2552 (o_b2 (fun x y => x + y) 2553) := js_St.okG (st_iadd d_293_2552) (fun _ _ _ _ _ => rfl)
theorem ki_293_2551 : js_OkG 293 2551 (o_ic 1 2552) := js_St.okG (st_iconst rfl d_293_2551) (fun _ _ _ _ _ => rfl)
theorem ki_293_2549 : js_OkG 293 2549 (o_il 5 2551) := js_St.okG (st_iload d_293_2549) (fun _ _ _ _ _ => rfl)
theorem ki_293_2548 : js_OkG 293 2548 (o_al 0 2549) := js_St.okG (st_aloadn rfl d_293_2548) (fun _ _ _ _ _ => rfl)
theorem ki_293_2547 : js_OkG 293 2547 (o_al 1 2548) := js_St.okG (st_aloadn rfl d_293_2547) (fun _ _ _ _ _ => rfl)
theorem ki_293_2544 : js_OkG 293 2544 (o_go 2851) := js_St.okG (st_goto (by decide) d_293_2544) (fun _ _ _ _ _ => rfl)
theorem ki_293_2575 : js_OkG 293 2575 (o_cI 134 1 9 2578) := og_cI (site_V kk_293_134 (by decide) kw_1285 kw_1286 kw_1287 (fun t ht => by cases ht; exact Or.inl ⟨_, rfl, rfl⟩) d_293_2575) rfl rfl
theorem ki_293_2574 : js_OkG 293 2574 (o_al 2 2575) := js_St.okG (st_aloadn rfl d_293_2574) (fun _ _ _ _ _ => rfl)
theorem ki_293_2572 : js_OkG 293 2572 (o_is 7 2574) := js_St.okG (st_istore (Nat.le_of_ble_eq_true rfl) d_293_2572) (fun _ _ _ _ _ => rfl)
theorem ki_293_2569 : js_OkG 293 2569 (o_cI 226 2 9 2572) := og_cI (site_V kk_293_226 (by decide) kw_1663 kw_1664 kw_1665 (fun t ht => by cases ht; exact Or.inl ⟨_, rfl, rfl⟩) d_293_2569) rfl rfl
theorem ki_293_2568 : js_OkG 293 2568 (o_u (fun x => (x.toUInt32 % 65536).toInt32) 2569) := js_St.okG (st_i2c d_293_2568) (fun _ _ _ _ _ => rfl)
theorem ki_293_2567 : js_OkG 293 2567 (o_lI 100 2568) := js_St.okG (st_lI d_293_2567) (fun _ _ _ _ _ => rfl)
theorem ki_293_2566 : js_OkG 293 2566 (o_b2 (fun x y => x + y) 2567) := js_St.okG (st_iadd d_293_2566) (fun _ _ _ _ _ => rfl)
theorem ki_293_2565 : js_OkG 293 2565 (o_ic 1 2566) := js_St.okG (st_iconst rfl d_293_2565) (fun _ _ _ _ _ => rfl)
theorem ki_293_2563 : js_OkG 293 2563 (o_il 5 2565) := js_St.okG (st_iload d_293_2563) (fun _ _ _ _ _ => rfl)
theorem ki_293_2562 : js_OkG 293 2562 (o_al 0 2563) := js_St.okG (st_aloadn rfl d_293_2562) (fun _ _ _ _ _ => rfl)
theorem ki_293_2561 : js_OkG 293 2561 (o_al 2 2562) := js_St.okG (st_aloadn rfl d_293_2561) (fun _ _ _ _ _ => rfl)
theorem ki_293_2591 : js_OkG 293 2591 (o_ic 0 2592) := js_St.okG (st_iconst rfl d_293_2591) (fun _ _ _ _ _ => rfl)
theorem ki_293_2590 : js_OkG 293 2590 (o_al 3 2591) := js_St.okG (st_aloadn rfl d_293_2590) (fun _ _ _ _ _ => rfl)
theorem ki_293_2587 : js_OkG 293 2587 (o_ne 2602 2590) := js_St.okG (st_ifne (by decide) d_293_2587) (fun _ _ _ _ _ => rfl)
theorem ki_293_2585 : js_OkG 293 2585 (o_il 6 2587) := js_St.okG (st_iload d_293_2585) (fun _ _ _ _ _ => rfl)
theorem ki_293_2584 : js_OkG 293 2584 (o_rZ) := og_rZ d_293_2584
theorem ki_293_2583 : js_OkG 293 2583 (o_ic 0 2584) := js_St.okG (st_iconst rfl d_293_2583) (fun _ _ _ _ _ => rfl)
theorem ki_293_2580 : js_OkG 293 2580 (o_ceq 2585 2583) := js_St.okG (st_iceq (by decide) d_293_2580) (fun _ _ _ _ _ => rfl)
theorem ki_293_2578 : js_OkG 293 2578 (o_il 6 2580) := js_St.okG (st_iload d_293_2578) (fun _ _ _ _ _ => rfl)
theorem ki_293_2607 : js_OkG 293 2607 (o_cI 288 2 0 2610) := og_sI kB_288 rfl kw_1079 kw_1080 d_293_2607
theorem ki_293_2606 : js_OkG 293 2606 (o_al 3 2607) := js_St.okG (st_aloadn rfl d_293_2606) (fun _ _ _ _ _ => rfl)
theorem ki_293_2605 : js_OkG 293 2605 (o_al 1 2606) := js_St.okG (st_aloadn rfl d_293_2605) (fun _ _ _ _ _ => rfl)
theorem ki_293_2602 : js_OkG 293 2602 (o_go 2851) := js_St.okG (st_goto (by decide) d_293_2602) (fun _ _ _ _ _ => rfl)
theorem ki_293_2601 : js_OkG 293 2601 (o_rZ) := og_rZ d_293_2601
theorem ki_293_2600 : js_OkG 293 2600 (o_ic 0 2601) := js_St.okG (st_iconst rfl d_293_2600) (fun _ _ _ _ _ => rfl)
theorem ki_293_2597 : js_OkG 293 2597 (o_eq 2602 2600) := js_St.okG (st_ifeq (by decide) d_293_2597) (fun _ _ _ _ _ => rfl)
theorem ki_293_2596 : js_OkG 293 2596 (o_lcmp 2597) := js_St.okG (st_lcmp d_293_2596) (fun _ _ _ _ _ => rfl)
theorem ki_293_2595 : js_OkG 293 2595 (o_i2l 2596) := js_St.okG (st_i2l d_293_2595) (fun _ _ _ _ _ => rfl)
theorem ki_293_2593 : js_OkG 293 2593 (o_il 7 2595) := js_St.okG (st_iload d_293_2593) (fun _ _ _ _ _ => rfl)
theorem ki_293_2592 : js_OkG 293 2592 (o_lL 102 2593) := js_St.okG (st_lL d_293_2592) (fun _ _ _ _ _ => rfl)
theorem ki_293_2622 : js_OkG 293 2622 (o_il 6 2624) := js_St.okG (st_iload d_293_2622) (fun _ _ _ _ _ => rfl)
theorem ki_293_2619 : js_OkG 293 2619 (o_cI 134 1 9 2622) := og_cI (site_V kk_293_134 (by decide) kw_1285 kw_1286 kw_1287 (fun t ht => by cases ht; exact Or.inl ⟨_, rfl, rfl⟩) d_293_2619) rfl rfl
theorem ki_293_2618 : js_OkG 293 2618 (o_al 2 2619) := js_St.okG (st_aloadn rfl d_293_2618) (fun _ _ _ _ _ => rfl)
theorem ki_293_2616 : js_OkG 293 2616 (o_is 7 2618) := js_St.okG (st_istore (Nat.le_of_ble_eq_true rfl) d_293_2616) (fun _ _ _ _ _ => rfl)
theorem ki_293_2613 : js_OkG 293 2613 (o_cI 234 1 9 2616) := og_cI (site_V kk_293_234 (by decide) kw_1667 kw_1668 kw_1669 (fun t ht => by cases ht; exact Or.inl ⟨_, rfl, rfl⟩) d_293_2613) rfl rfl
theorem ki_293_2612 : js_OkG 293 2612 (o_al 2 2613) := js_St.okG (st_aloadn rfl d_293_2612) (fun _ _ _ _ _ => rfl)
theorem ki_293_2610 : js_OkG 293 2610 (o_is 6 2612) := js_St.okG (st_istore (Nat.le_of_ble_eq_true rfl) d_293_2610) (fun _ _ _ _ _ => rfl)
theorem ki_293_2639 : js_OkG 293 2639 (o_i2l 2640) := js_St.okG (st_i2l d_293_2639) (fun _ _ _ _ _ => rfl)
theorem ki_293_2637 : js_OkG 293 2637 (o_il 7 2639) := js_St.okG (st_iload d_293_2637) (fun _ _ _ _ _ => rfl)
theorem ki_293_2636 : js_OkG 293 2636 (o_lL 102 2637) := js_St.okG (st_lL d_293_2636) (fun _ _ _ _ _ => rfl)
theorem ki_293_2635 : js_OkG 293 2635 (o_ic 0 2636) := js_St.okG (st_iconst rfl d_293_2635) (fun _ _ _ _ _ => rfl)
theorem ki_293_2634 : js_OkG 293 2634 (o_al 3 2635) := js_St.okG (st_aloadn rfl d_293_2634) (fun _ _ _ _ _ => rfl)
theorem ki_293_2631 : js_OkG 293 2631 (o_ne 2646 2634) := js_St.okG (st_ifne (by decide) d_293_2631) (fun _ _ _ _ _ => rfl)
theorem ki_293_2629 : js_OkG 293 2629 (o_il 6 2631) := js_St.okG (st_iload d_293_2629) (fun _ _ _ _ _ => rfl)
theorem ki_293_2628 : js_OkG 293 2628 (o_rZ) := og_rZ d_293_2628
theorem ki_293_2627 : js_OkG 293 2627 (o_ic 0 2628) := js_St.okG (st_iconst rfl d_293_2627) (fun _ _ _ _ _ => rfl)
theorem ki_293_2624 : js_OkG 293 2624 (o_ceq 2629 2627) := js_St.okG (st_iceq (by decide) d_293_2624) (fun _ _ _ _ _ => rfl)
theorem ki_293_2654 : js_OkG 293 2654 (o_is 6 2656) := js_St.okG (st_istore (Nat.le_of_ble_eq_true rfl) d_293_2654) (fun _ _ _ _ _ => rfl)
theorem ki_293_2651 : js_OkG 293 2651 (o_cI 289 2 0 2654) := og_sI kB_289 rfl kw_1187 kw_1188 d_293_2651
theorem ki_293_2650 : js_OkG 293 2650 (o_al 3 2651) := js_St.okG (st_aloadn rfl d_293_2650) (fun _ _ _ _ _ => rfl)
theorem ki_293_2649 : js_OkG 293 2649 (o_al 1 2650) := js_St.okG (st_aloadn rfl d_293_2649) (fun _ _ _ _ _ => rfl)
theorem ki_293_2646 : js_OkG 293 2646 (o_go 2851) := js_St.okG (st_goto (by decide) d_293_2646) (fun _ _ _ _ _ => rfl)
theorem ki_293_2645 : js_OkG 293 2645 (o_rZ) := og_rZ d_293_2645
theorem ki_293_2644 : js_OkG 293 2644 (o_ic 0 2645) := js_St.okG (st_iconst rfl d_293_2644) (fun _ _ _ _ _ => rfl)
theorem ki_293_2641 : js_OkG 293 2641 (o_eq 2646 2644) := js_St.okG (st_ifeq (by decide) d_293_2641) (fun _ _ _ _ _ => rfl)
theorem ki_293_2640 : js_OkG 293 2640 (o_lcmp 2641) := js_St.okG (st_lcmp d_293_2640) (fun _ _ _ _ _ => rfl)
theorem ki_293_2671 : js_OkG 293 2671 (o_ic 0 2672) := js_St.okG (st_iconst rfl d_293_2671) (fun _ _ _ _ _ => rfl)
theorem ki_293_2668 : js_OkG 293 2668 (o_ceq 2673 2671) := js_St.okG (st_iceq (by decide) d_293_2668) (fun _ _ _ _ _ => rfl)
theorem ki_293_2666 : js_OkG 293 2666 (o_il 6 2668) := js_St.okG (st_iload d_293_2666) (fun _ _ _ _ _ => rfl)
theorem ki_293_2663 : js_OkG 293 2663 (o_cI 134 1 9 2666) := og_cI (site_V kk_293_134 (by decide) kw_1285 kw_1286 kw_1287 (fun t ht => by cases ht; exact Or.inl ⟨_, rfl, rfl⟩) d_293_2663) rfl rfl
theorem ki_293_2662 : js_OkG 293 2662 (o_al 2 2663) := js_St.okG (st_aloadn rfl d_293_2662) (fun _ _ _ _ _ => rfl)
theorem ki_293_2660 : js_OkG 293 2660 (o_is 7 2662) := js_St.okG (st_istore (Nat.le_of_ble_eq_true rfl) d_293_2660) (fun _ _ _ _ _ => rfl)
theorem ki_293_2657 : js_OkG 293 2657 (o_cI 235 1 9 2660) := og_cI (site_V kk_293_235 (by decide) kw_1710 kw_1711 kw_1712 (fun t ht => by cases ht; exact Or.inl ⟨_, rfl, rfl⟩) d_293_2657) rfl rfl
theorem ki_293_2656 : js_OkG 293 2656 (o_al 2 2657) := js_St.okG (st_aloadn rfl d_293_2656) (fun _ _ _ _ _ => rfl)
theorem ki_293_2685 : js_OkG 293 2685 (o_eq 2690 2688) := js_St.okG (st_ifeq (by decide) d_293_2685) (fun _ _ _ _ _ => rfl)
theorem ki_293_2684 : js_OkG 293 2684 (o_lcmp 2685) := js_St.okG (st_lcmp d_293_2684) (fun _ _ _ _ _ => rfl)
theorem ki_293_2683 : js_OkG 293 2683 (o_i2l 2684) := js_St.okG (st_i2l d_293_2683) (fun _ _ _ _ _ => rfl)
theorem ki_293_2681 : js_OkG 293 2681 (o_il 7 2683) := js_St.okG (st_iload d_293_2681) (fun _ _ _ _ _ => rfl)
theorem ki_293_2680 : js_OkG 293 2680 (o_lL 102 2681) := js_St.okG (st_lL d_293_2680) (fun _ _ _ _ _ => rfl)
theorem ki_293_2679 : js_OkG 293 2679 (o_ic 0 2680) := js_St.okG (st_iconst rfl d_293_2679) (fun _ _ _ _ _ => rfl)
theorem ki_293_2678 : js_OkG 293 2678 (o_al 3 2679) := js_St.okG (st_aloadn rfl d_293_2678) (fun _ _ _ _ _ => rfl)
theorem ki_293_2675 : js_OkG 293 2675 (o_ne 2690 2678) := js_St.okG (st_ifne (by decide) d_293_2675) (fun _ _ _ _ _ => rfl)
theorem ki_293_2673 : js_OkG 293 2673 (o_il 6 2675) := js_St.okG (st_iload d_293_2673) (fun _ _ _ _ _ => rfl)
theorem ki_293_2672 : js_OkG 293 2672 (o_rZ) := og_rZ d_293_2672
theorem ki_293_2701 : js_OkG 293 2701 (o_cI 236 1 9 2704) := og_cI (site_V kk_293_236 (by decide) kw_1714 kw_1715 kw_1716 (fun t ht => by cases ht; exact Or.inl ⟨_, rfl, rfl⟩) d_293_2701) rfl rfl
theorem ki_293_2700 : js_OkG 293 2700 (o_al 2 2701) := js_St.okG (st_aloadn rfl d_293_2700) (fun _ _ _ _ _ => rfl)
theorem ki_293_2698 : js_OkG 293 2698 (o_is 6 2700) := js_St.okG (st_istore (Nat.le_of_ble_eq_true rfl) d_293_2698) (fun _ _ _ _ _ => rfl)
theorem ki_293_2695 : js_OkG 293 2695 (o_cI 290 2 0 2698) := og_sI kB_290 rfl kw_1195 kw_1196 d_293_2695
theorem ki_293_2694 : js_OkG 293 2694 (o_al 3 2695) := js_St.okG (st_aloadn rfl d_293_2694) (fun _ _ _ _ _ => rfl)
theorem ki_293_2693 : js_OkG 293 2693 (o_al 1 2694) := js_St.okG (st_aloadn rfl d_293_2693) (fun _ _ _ _ _ => rfl)
theorem ki_293_2690 : js_OkG 293 2690 (o_go 2851) := js_St.okG (st_goto (by decide) d_293_2690) (fun _ _ _ _ _ => rfl)
theorem ki_293_2689 : js_OkG 293 2689 (o_rZ) := og_rZ d_293_2689
theorem ki_293_2688 : js_OkG 293 2688 (o_ic 0 2689) := js_St.okG (st_iconst rfl d_293_2688) (fun _ _ _ _ _ => rfl)
theorem ki_293_2719 : js_OkG 293 2719 (o_ne 2734 2722) := js_St.okG (st_ifne (by decide) d_293_2719) (fun _ _ _ _ _ => rfl)
theorem ki_293_2717 : js_OkG 293 2717 (o_il 6 2719) := js_St.okG (st_iload d_293_2717) (fun _ _ _ _ _ => rfl)
theorem ki_293_2716 : js_OkG 293 2716 (o_rZ) := og_rZ d_293_2716
theorem ki_293_2715 : js_OkG 293 2715 (o_ic 0 2716) := js_St.okG (st_iconst rfl d_293_2715) (fun _ _ _ _ _ => rfl)
theorem ki_293_2712 : js_OkG 293 2712 (o_ceq 2717 2715) := js_St.okG (st_iceq (by decide) d_293_2712) (fun _ _ _ _ _ => rfl)
theorem ki_293_2710 : js_OkG 293 2710 (o_il 6 2712) := js_St.okG (st_iload d_293_2710) (fun _ _ _ _ _ => rfl)
theorem ki_293_2707 : js_OkG 293 2707 (o_cI 134 1 9 2710) := og_cI (site_V kk_293_134 (by decide) kw_1285 kw_1286 kw_1287 (fun t ht => by cases ht; exact Or.inl ⟨_, rfl, rfl⟩) d_293_2707) rfl rfl
theorem ki_293_2706 : js_OkG 293 2706 (o_al 2 2707) := js_St.okG (st_aloadn rfl d_293_2706) (fun _ _ _ _ _ => rfl)
theorem ki_293_2704 : js_OkG 293 2704 (o_is 7 2706) := js_St.okG (st_istore (Nat.le_of_ble_eq_true rfl) d_293_2704) (fun _ _ _ _ _ => rfl)
theorem ki_293_2734 : js_OkG 293 2734 (o_go 2851) := js_St.okG (st_goto (by decide) d_293_2734) (fun _ _ _ _ _ => rfl)
theorem ki_293_2733 : js_OkG 293 2733 (o_rZ) := og_rZ d_293_2733
theorem ki_293_2732 : js_OkG 293 2732 (o_ic 0 2733) := js_St.okG (st_iconst rfl d_293_2732) (fun _ _ _ _ _ => rfl)
theorem ki_293_2729 : js_OkG 293 2729 (o_eq 2734 2732) := js_St.okG (st_ifeq (by decide) d_293_2729) (fun _ _ _ _ _ => rfl)
theorem ki_293_2728 : js_OkG 293 2728 (o_lcmp 2729) := js_St.okG (st_lcmp d_293_2728) (fun _ _ _ _ _ => rfl)
theorem ki_293_2727 : js_OkG 293 2727 (o_i2l 2728) := js_St.okG (st_i2l d_293_2727) (fun _ _ _ _ _ => rfl)
theorem ki_293_2725 : js_OkG 293 2725 (o_il 7 2727) := js_St.okG (st_iload d_293_2725) (fun _ _ _ _ _ => rfl)
theorem ki_293_2724 : js_OkG 293 2724 (o_lL 102 2725) := js_St.okG (st_lL d_293_2724) (fun _ _ _ _ _ => rfl)
theorem ki_293_2723 : js_OkG 293 2723 (o_ic 0 2724) := js_St.okG (st_iconst rfl d_293_2723) (fun _ _ _ _ _ => rfl)
theorem ki_293_2722 : js_OkG 293 2722 (o_al 3 2723) := js_St.okG (st_aloadn rfl d_293_2722) (fun _ _ _ _ _ => rfl)
theorem ki_293_2751 : js_OkG 293 2751 (o_cI 134 1 9 2754) := og_cI (site_V kk_293_134 (by decide) kw_1285 kw_1286 kw_1287 (fun t ht => by cases ht; exact Or.inl ⟨_, rfl, rfl⟩) d_293_2751) rfl rfl
theorem ki_293_2750 : js_OkG 293 2750 (o_al 2 2751) := js_St.okG (st_aloadn rfl d_293_2750) (fun _ _ _ _ _ => rfl)
theorem ki_293_2748 : js_OkG 293 2748 (o_is 7 2750) := js_St.okG (st_istore (Nat.le_of_ble_eq_true rfl) d_293_2748) (fun _ _ _ _ _ => rfl)
theorem ki_293_2745 : js_OkG 293 2745 (o_cI 237 1 9 2748) := og_cI (site_V kk_293_237 (by decide) kw_1718 kw_1719 kw_1720 (fun t ht => by cases ht; exact Or.inl ⟨_, rfl, rfl⟩) d_293_2745) rfl rfl
theorem ki_293_2744 : js_OkG 293 2744 (o_al 2 2745) := js_St.okG (st_aloadn rfl d_293_2744) (fun _ _ _ _ _ => rfl)
theorem ki_293_2742 : js_OkG 293 2742 (o_is 6 2744) := js_St.okG (st_istore (Nat.le_of_ble_eq_true rfl) d_293_2742) (fun _ _ _ _ _ => rfl)
theorem ki_293_2739 : js_OkG 293 2739 (o_cI 291 2 0 2742) := og_sI kB_291 rfl kw_1203 kw_1204 d_293_2739
theorem ki_293_2738 : js_OkG 293 2738 (o_al 3 2739) := js_St.okG (st_aloadn rfl d_293_2738) (fun _ _ _ _ _ => rfl)
theorem ki_293_2737 : js_OkG 293 2737 (o_al 1 2738) := js_St.okG (st_aloadn rfl d_293_2737) (fun _ _ _ _ _ => rfl)
theorem ki_293_2767 : js_OkG 293 2767 (o_ic 0 2768) := js_St.okG (st_iconst rfl d_293_2767) (fun _ _ _ _ _ => rfl)
theorem ki_293_2766 : js_OkG 293 2766 (o_al 3 2767) := js_St.okG (st_aloadn rfl d_293_2766) (fun _ _ _ _ _ => rfl)
theorem ki_293_2763 : js_OkG 293 2763 (o_ne 2778 2766) := js_St.okG (st_ifne (by decide) d_293_2763) (fun _ _ _ _ _ => rfl)
theorem ki_293_2761 : js_OkG 293 2761 (o_il 6 2763) := js_St.okG (st_iload d_293_2761) (fun _ _ _ _ _ => rfl)
theorem ki_293_2760 : js_OkG 293 2760 (o_rZ) := og_rZ d_293_2760
theorem ki_293_2759 : js_OkG 293 2759 (o_ic 0 2760) := js_St.okG (st_iconst rfl d_293_2759) (fun _ _ _ _ _ => rfl)
theorem ki_293_2756 : js_OkG 293 2756 (o_ceq 2761 2759) := js_St.okG (st_iceq (by decide) d_293_2756) (fun _ _ _ _ _ => rfl)
theorem ki_293_2754 : js_OkG 293 2754 (o_il 6 2756) := js_St.okG (st_iload d_293_2754) (fun _ _ _ _ _ => rfl)
theorem ki_293_2782 : js_OkG 293 2782 (o_cI 111 1 8 2785) := og_cI (site_V kk_293_111 (by decide) kw_661 kw_662 kw_663 (fun t ht => by cases ht; exact Or.inl ⟨_, rfl, rfl⟩) d_293_2782) rfl rfl
theorem ki_293_2781 : js_OkG 293 2781 (o_al 1 2782) := js_St.okG (st_aloadn rfl d_293_2781) (fun _ _ _ _ _ => rfl)
theorem ki_293_2778 : js_OkG 293 2778 (o_go 2851) := js_St.okG (st_goto (by decide) d_293_2778) (fun _ _ _ _ _ => rfl)
theorem ki_293_2777 : js_OkG 293 2777 (o_rZ) := og_rZ d_293_2777
theorem ki_293_2776 : js_OkG 293 2776 (o_ic 0 2777) := js_St.okG (st_iconst rfl d_293_2776) (fun _ _ _ _ _ => rfl)
theorem ki_293_2773 : js_OkG 293 2773 (o_eq 2778 2776) := js_St.okG (st_ifeq (by decide) d_293_2773) (fun _ _ _ _ _ => rfl)
theorem ki_293_2772 : js_OkG 293 2772 (o_lcmp 2773) := js_St.okG (st_lcmp d_293_2772) (fun _ _ _ _ _ => rfl)
theorem ki_293_2771 : js_OkG 293 2771 (o_i2l 2772) := js_St.okG (st_i2l d_293_2771) (fun _ _ _ _ _ => rfl)
theorem ki_293_2769 : js_OkG 293 2769 (o_il 7 2771) := js_St.okG (st_iload d_293_2769) (fun _ _ _ _ _ => rfl)
theorem ki_293_2768 : js_OkG 293 2768 (o_lL 102 2769) := js_St.okG (st_lL d_293_2768) (fun _ _ _ _ _ => rfl)
theorem ki_293_2799 : js_OkG 293 2799 (o_cI 239 1 9 2802) := og_cI (site_V kk_293_239 (by decide) kw_1726 kw_1727 kw_1728 (fun t ht => by cases ht; exact Or.inl ⟨_, rfl, rfl⟩) d_293_2799) rfl rfl
theorem ki_293_2798 : js_OkG 293 2798 (o_al 2 2799) := js_St.okG (st_aloadn rfl d_293_2798) (fun _ _ _ _ _ => rfl)
theorem ki_293_2795 : js_OkG 293 2795 (o_cI 112 1 8 2798) := og_cI (site_V kk_293_112 (by decide) kw_665 kw_666 kw_667 (fun t ht => by cases ht; exact Or.inl ⟨_, rfl, rfl⟩) d_293_2795) rfl rfl
theorem ki_293_2794 : js_OkG 293 2794 (o_al 1 2795) := js_St.okG (st_aloadn rfl d_293_2794) (fun _ _ _ _ _ => rfl)
theorem ki_293_2793 : js_OkG 293 2793 (o_rZ) := og_rZ d_293_2793
theorem ki_293_2792 : js_OkG 293 2792 (o_ic 0 2793) := js_St.okG (st_iconst rfl d_293_2792) (fun _ _ _ _ _ => rfl)
theorem ki_293_2789 : js_OkG 293 2789 (o_ceq 2851 2792) := js_St.okG (st_iceq (by decide) d_293_2789) (fun _ _ _ _ _ => rfl)
theorem ki_293_2786 : js_OkG 293 2786 (o_cI 238 1 9 2789) := og_cI (site_V kk_293_238 (by decide) kw_1722 kw_1723 kw_1724 (fun t ht => by cases ht; exact Or.inl ⟨_, rfl, rfl⟩) d_293_2786) rfl rfl
theorem ki_293_2785 : js_OkG 293 2785 (o_al 2 2786) := js_St.okG (st_aloadn rfl d_293_2785) (fun _ _ _ _ _ => rfl)
theorem ki_293_2815 : js_OkG 293 2815 (o_cI 240 1 9 2818) := og_cI (site_V kk_293_240 (by decide) kw_1730 kw_1731 kw_1732 (fun t ht => by cases ht; exact Or.inl ⟨_, rfl, rfl⟩) d_293_2815) rfl rfl
theorem ki_293_2814 : js_OkG 293 2814 (o_al 2 2815) := js_St.okG (st_aloadn rfl d_293_2814) (fun _ _ _ _ _ => rfl)
theorem ki_293_2812 : js_OkG 293 2812 (o_is 6 2814) := js_St.okG (st_istore (Nat.le_of_ble_eq_true rfl) d_293_2812) (fun _ _ _ _ _ => rfl)
theorem ki_293_2809 : js_OkG 293 2809 (o_cI 292 2 0 2812) := og_sI kB_292 rfl kw_1215 kw_1216 d_293_2809
theorem ki_293_2808 : js_OkG 293 2808 (o_al 3 2809) := js_St.okG (st_aloadn rfl d_293_2808) (fun _ _ _ _ _ => rfl)
theorem ki_293_2807 : js_OkG 293 2807 (o_al 1 2808) := js_St.okG (st_aloadn rfl d_293_2807) (fun _ _ _ _ _ => rfl)
theorem ki_293_2806 : js_OkG 293 2806 (o_rZ) := og_rZ d_293_2806
theorem ki_293_2805 : js_OkG 293 2805 (o_ic 0 2806) := js_St.okG (st_iconst rfl d_293_2805) (fun _ _ _ _ _ => rfl)
theorem ki_293_2802 : js_OkG 293 2802 (o_ceq 2851 2805) := js_St.okG (st_iceq (by decide) d_293_2802) (fun _ _ _ _ _ => rfl)
theorem ki_293_2831 : js_OkG 293 2831 (o_il 6 2833) := js_St.okG (st_iload d_293_2831) (fun _ _ _ _ _ => rfl)
theorem ki_293_2830 : js_OkG 293 2830 (o_rZ) := og_rZ d_293_2830
theorem ki_293_2829 : js_OkG 293 2829 (o_ic 0 2830) := js_St.okG (st_iconst rfl d_293_2829) (fun _ _ _ _ _ => rfl)
theorem ki_293_2826 : js_OkG 293 2826 (o_ceq 2831 2829) := js_St.okG (st_iceq (by decide) d_293_2826) (fun _ _ _ _ _ => rfl)
theorem ki_293_2824 : js_OkG 293 2824 (o_il 6 2826) := js_St.okG (st_iload d_293_2824) (fun _ _ _ _ _ => rfl)
theorem ki_293_2821 : js_OkG 293 2821 (o_cI 134 1 9 2824) := og_cI (site_V kk_293_134 (by decide) kw_1285 kw_1286 kw_1287 (fun t ht => by cases ht; exact Or.inl ⟨_, rfl, rfl⟩) d_293_2821) rfl rfl
theorem ki_293_2820 : js_OkG 293 2820 (o_al 2 2821) := js_St.okG (st_aloadn rfl d_293_2820) (fun _ _ _ _ _ => rfl)
theorem ki_293_2818 : js_OkG 293 2818 (o_is 7 2820) := js_St.okG (st_istore (Nat.le_of_ble_eq_true rfl) d_293_2818) (fun _ _ _ _ _ => rfl)
theorem ki_293_2847 : js_OkG 293 2847 (o_rZ) := og_rZ d_293_2847
theorem ki_293_2846 : js_OkG 293 2846 (o_ic 0 2847) := js_St.okG (st_iconst rfl d_293_2846) (fun _ _ _ _ _ => rfl)
theorem ki_293_2843 : js_OkG 293 2843 (o_eq 2848 2846) := js_St.okG (st_ifeq (by decide) d_293_2843) (fun _ _ _ _ _ => rfl)
theorem ki_293_2842 : js_OkG 293 2842 (o_lcmp 2843) := js_St.okG (st_lcmp d_293_2842) (fun _ _ _ _ _ => rfl)
theorem ki_293_2841 : js_OkG 293 2841 (o_i2l 2842) := js_St.okG (st_i2l d_293_2841) (fun _ _ _ _ _ => rfl)
theorem ki_293_2839 : js_OkG 293 2839 (o_il 7 2841) := js_St.okG (st_iload d_293_2839) (fun _ _ _ _ _ => rfl)
theorem ki_293_2838 : js_OkG 293 2838 (o_lL 102 2839) := js_St.okG (st_lL d_293_2838) (fun _ _ _ _ _ => rfl)
theorem ki_293_2837 : js_OkG 293 2837 (o_ic 0 2838) := js_St.okG (st_iconst rfl d_293_2837) (fun _ _ _ _ _ => rfl)
theorem ki_293_2836 : js_OkG 293 2836 (o_al 3 2837) := js_St.okG (st_aloadn rfl d_293_2836) (fun _ _ _ _ _ => rfl)
theorem ki_293_2833 : js_OkG 293 2833 (o_ne 2848 2836) := js_St.okG (st_ifne (by decide) d_293_2833) (fun _ _ _ _ _ => rfl)
theorem ki_293_2858 : js_OkG 293 2858 (o_rZ) := og_rZ d_293_2858
theorem ki_293_2857 : js_OkG 293 2857 (o_ic 1 2858) := js_St.okG (st_iconst rfl d_293_2857) (fun _ _ _ _ _ => rfl)
theorem ki_293_2854 : js_OkG 293 2854 (o_go 28) := js_St.okG (st_goto (by decide) d_293_2854) (fun _ _ _ _ _ => rfl)
theorem ki_293_2851 : js_OkG 293 2851 (o_inc 5 6 2854) := js_St.okG (st_iinc rfl (Nat.le_of_ble_eq_true rfl) d_293_2851) (fun _ _ _ _ _ => rfl)
theorem ki_293_2848 : js_OkG 293 2848 (o_go 2851) := js_St.okG (st_goto (by decide) d_293_2848) (fun _ _ _ _ _ => rfl)
set_option maxRecDepth 20000 in
theorem mk_255 : js_mokG 255 := jk_tab (fun _ => js_St.okG st_bad (fun _ _ _ _ _ => rfl)) (show jk_all (js_OkG 255) 0 tb_255 from ⟨⟨ki_255_0, ⟨kbadG, ⟨ki_255_2, ⟨ki_255_3, ⟨ki_255_4, ⟨ki_255_5, ⟨ki_255_6, ⟨ki_255_7, ⟨kbadG, ⟨ki_255_9, ⟨kbadG, ⟨ki_255_11, ⟨kbadG, ⟨kbadG, ⟨ki_255_14, ⟨ki_255_15, trivial⟩⟩⟩⟩⟩⟩⟩⟩⟩⟩⟩⟩⟩⟩⟩⟩, ⟨⟨ki_255_16, ⟨kbadG, ⟨kbadG, ⟨ki_255_19, ⟨kbadG, ⟨ki_255_21, ⟨ki_255_22, ⟨ki_255_23, ⟨kbadG, ⟨ki_255_25, ⟨ki_255_26, ⟨ki_255_27, ⟨ki_255_28, trivial⟩⟩⟩⟩⟩⟩⟩⟩⟩⟩⟩⟩⟩, trivial⟩⟩)
set_option maxRecDepth 20000 in
theorem mk_256 : js_mokG 256 := jk_tab (fun _ => js_St.okG st_bad (fun _ _ _ _ _ => rfl)) (show jk_all (js_OkG 256) 0 tb_256 from ⟨⟨ki_256_0, ⟨ki_256_1, ⟨ki_256_2, ⟨ki_256_3, ⟨ki_256_4, ⟨kbadG, ⟨kbadG, ⟨ki_256_7, ⟨ki_256_8, ⟨ki_256_9, ⟨kbadG, ⟨kbadG, ⟨ki_256_12, ⟨ki_256_13, ⟨ki_256_14, ⟨ki_256_15, trivial⟩⟩⟩⟩⟩⟩⟩⟩⟩⟩⟩⟩⟩⟩⟩⟩, ⟨⟨ki_256_16, ⟨ki_256_17, ⟨ki_256_18, ⟨ki_256_19, trivial⟩⟩⟩⟩, trivial⟩⟩)
set_option maxRecDepth 20000 in
theorem mk_257 : js_mokG 257 := jk_tab (fun _ => js_St.okG st_bad (fun _ _ _ _ _ => rfl)) (show jk_all (js_OkG 257) 0 tb_257 from ⟨⟨ki_257_0, ⟨ki_257_1, ⟨ki_257_2, ⟨ki_257_3, ⟨ki_257_4, ⟨kbadG, ⟨kbadG, ⟨ki_257_7, ⟨ki_257_8, ⟨ki_257_9, ⟨kbadG, ⟨kbadG, ⟨ki_257_12, ⟨ki_257_13, ⟨ki_257_14, ⟨ki_257_15, trivial⟩⟩⟩⟩⟩⟩⟩⟩⟩⟩⟩⟩⟩⟩⟩⟩, ⟨⟨ki_257_16, trivial⟩, trivial⟩⟩)
set_option maxRecDepth 20000 in
theorem mk_258 : js_mokG 258 := jk_tab (fun _ => js_St.okG st_bad (fun _ _ _ _ _ => rfl)) (show jk_all (js_OkG 258) 0 tb_258 from ⟨⟨ki_258_0, ⟨ki_258_1, ⟨ki_258_2, ⟨ki_258_3, ⟨ki_258_4, ⟨kbadG, ⟨kbadG, ⟨ki_258_7, ⟨ki_258_8, ⟨ki_258_9, ⟨kbadG, ⟨kbadG, ⟨ki_258_12, ⟨ki_258_13, ⟨ki_258_14, ⟨ki_258_15, trivial⟩⟩⟩⟩⟩⟩⟩⟩⟩⟩⟩⟩⟩⟩⟩⟩, ⟨⟨ki_258_16, trivial⟩, trivial⟩⟩)
set_option maxRecDepth 20000 in
theorem mk_259 : js_mokG 259 := jk_tab (fun _ => js_St.okG st_bad (fun _ _ _ _ _ => rfl)) (show jk_all (js_OkG 259) 0 tb_259 from ⟨⟨ki_259_0, ⟨ki_259_1, ⟨ki_259_2, ⟨ki_259_3, ⟨ki_259_4, ⟨kbadG, ⟨kbadG, ⟨ki_259_7, ⟨ki_259_8, ⟨ki_259_9, ⟨kbadG, ⟨kbadG, ⟨ki_259_12, ⟨ki_259_13, ⟨ki_259_14, ⟨ki_259_15, trivial⟩⟩⟩⟩⟩⟩⟩⟩⟩⟩⟩⟩⟩⟩⟩⟩, ⟨⟨ki_259_16, trivial⟩, trivial⟩⟩)
set_option maxRecDepth 20000 in
theorem mk_260 : js_mokG 260 := jk_tab (fun _ => js_St.okG st_bad (fun _ _ _ _ _ => rfl)) (show jk_all (js_OkG 260) 0 tb_260 from ⟨⟨ki_260_0, ⟨ki_260_1, ⟨ki_260_2, ⟨ki_260_3, ⟨ki_260_4, ⟨ki_260_5, ⟨kbadG, ⟨kbadG, ⟨ki_260_8, ⟨ki_260_9, ⟨ki_260_10, ⟨kbadG, ⟨kbadG, ⟨ki_260_13, ⟨kbadG, ⟨ki_260_15, trivial⟩⟩⟩⟩⟩⟩⟩⟩⟩⟩⟩⟩⟩⟩⟩⟩, ⟨⟨ki_260_16, ⟨ki_260_17, ⟨kbadG, ⟨ki_260_19, ⟨ki_260_20, ⟨ki_260_21, ⟨ki_260_22, trivial⟩⟩⟩⟩⟩⟩⟩, trivial⟩⟩)
set_option maxRecDepth 20000 in
theorem mk_261 : js_mokG 261 := jk_tab (fun _ => js_St.okG st_bad (fun _ _ _ _ _ => rfl)) (show jk_all (js_OkG 261) 0 tb_261 from ⟨⟨ki_261_0, ⟨ki_261_1, ⟨ki_261_2, ⟨ki_261_3, ⟨ki_261_4, ⟨kbadG, ⟨kbadG, ⟨ki_261_7, ⟨kbadG, ⟨kbadG, ⟨ki_261_10, ⟨ki_261_11, ⟨kbadG, ⟨kbadG, ⟨ki_261_14, ⟨ki_261_15, trivial⟩⟩⟩⟩⟩⟩⟩⟩⟩⟩⟩⟩⟩⟩⟩⟩, ⟨⟨ki_261_16, ⟨kbadG, ⟨kbadG, ⟨ki_261_19, ⟨ki_261_20, ⟨ki_261_21, ⟨ki_261_22, ⟨ki_261_23, trivial⟩⟩⟩⟩⟩⟩⟩⟩, trivial⟩⟩)
set_option maxRecDepth 20000 in
theorem mk_262 : js_mokG 262 := jk_tab (fun _ => js_St.okG st_bad (fun _ _ _ _ _ => rfl)) (show jk_all (js_OkG 262) 0 tb_262 from ⟨⟨ki_262_0, ⟨ki_262_1, ⟨ki_262_2, ⟨ki_262_3, ⟨ki_262_4, ⟨kbadG, ⟨kbadG, ⟨ki_262_7, ⟨ki_262_8, ⟨ki_262_9, ⟨kbadG, ⟨kbadG, ⟨ki_262_12, ⟨ki_262_13, ⟨ki_262_14, ⟨ki_262_15, trivial⟩⟩⟩⟩⟩⟩⟩⟩⟩⟩⟩⟩⟩⟩⟩⟩, ⟨⟨ki_262_16, trivial⟩, trivial⟩⟩)
set_option maxRecDepth 20000 in
theorem mk_263 : js_mokG 263 := jk_tab (fun _ => js_St.okG st_bad (fun _ _ _ _ _ => rfl)) (show jk_all (js_OkG 263) 0 tb_263 from ⟨⟨ki_263_0, ⟨kbadG, ⟨ki_263_2, ⟨ki_263_3, ⟨ki_263_4, ⟨ki_263_5, ⟨ki_263_6, ⟨ki_263_7, ⟨kbadG, ⟨kbadG, ⟨ki_263_10, ⟨ki_263_11, ⟨ki_263_12, ⟨kbadG, ⟨kbadG, ⟨ki_263_15, trivial⟩⟩⟩⟩⟩⟩⟩⟩⟩⟩⟩⟩⟩⟩⟩⟩, ⟨⟨kbadG, ⟨ki_263_17, ⟨ki_263_18, ⟨ki_263_19, ⟨kbadG, ⟨ki_263_21, ⟨ki_263_22, ⟨ki_263_23, ⟨kbadG, ⟨ki_263_25, ⟨ki_263_26, ⟨ki_263_27, ⟨ki_263_28, trivial⟩⟩⟩⟩⟩⟩⟩⟩⟩⟩⟩⟩⟩, trivial⟩⟩)
set_option maxRecDepth 20000 in
theorem mk_264 : js_mokG 264 := jk_tab (fun _ => js_St.okG st_bad (fun _ _ _ _ _ => rfl)) (show jk_all (js_OkG 264) 0 tb_264 from ⟨⟨ki_264_0, ⟨ki_264_1, ⟨ki_264_2, ⟨ki_264_3, ⟨ki_264_4, ⟨kbadG, ⟨kbadG, ⟨ki_264_7, ⟨ki_264_8, ⟨ki_264_9, ⟨kbadG, ⟨kbadG, ⟨ki_264_12, ⟨ki_264_13, ⟨ki_264_14, ⟨ki_264_15, trivial⟩⟩⟩⟩⟩⟩⟩⟩⟩⟩⟩⟩⟩⟩⟩⟩, ⟨⟨ki_264_16, ⟨ki_264_17, ⟨ki_264_18, ⟨ki_264_19, trivial⟩⟩⟩⟩, trivial⟩⟩)
set_option maxRecDepth 20000 in
theorem mk_265 : js_mokG 265 := jk_tab (fun _ => js_St.okG st_bad (fun _ _ _ _ _ => rfl)) (show jk_all (js_OkG 265) 0 tb_265 from ⟨⟨ki_265_0, ⟨ki_265_1, ⟨ki_265_2, ⟨ki_265_3, ⟨ki_265_4, ⟨ki_265_5, ⟨kbadG, ⟨kbadG, ⟨ki_265_8, ⟨ki_265_9, ⟨ki_265_10, ⟨kbadG, ⟨kbadG, ⟨ki_265_13, ⟨kbadG, ⟨ki_265_15, trivial⟩⟩⟩⟩⟩⟩⟩⟩⟩⟩⟩⟩⟩⟩⟩⟩, ⟨⟨ki_265_16, ⟨ki_265_17, ⟨kbadG, ⟨ki_265_19, ⟨ki_265_20, ⟨ki_265_21, ⟨ki_265_22, trivial⟩⟩⟩⟩⟩⟩⟩, trivial⟩⟩)
set_option maxRecDepth 20000 in
theorem mk_266 : js_mokG 266 := jk_tab (fun _ => js_St.okG st_bad (fun _ _ _ _ _ => rfl)) (show jk_all (js_OkG 266) 0 tb_266 from ⟨⟨ki_266_0, ⟨ki_266_1, ⟨ki_266_2, ⟨ki_266_3, ⟨ki_266_4, ⟨ki_266_5, ⟨kbadG, ⟨kbadG, ⟨ki_266_8, ⟨ki_266_9, ⟨ki_266_10, ⟨kbadG, ⟨kbadG, ⟨ki_266_13, ⟨kbadG, ⟨ki_266_15, trivial⟩⟩⟩⟩⟩⟩⟩⟩⟩⟩⟩⟩⟩⟩⟩⟩, ⟨⟨ki_266_16, ⟨ki_266_17, ⟨kbadG, ⟨ki_266_19, ⟨ki_266_20, ⟨ki_266_21, ⟨kbadG, ⟨ki_266_23, ⟨ki_266_24, ⟨ki_266_25, ⟨ki_266_26, trivial⟩⟩⟩⟩⟩⟩⟩⟩⟩⟩⟩, trivial⟩⟩)
set_option maxRecDepth 20000 in
theorem mk_267 : js_mokG 267 := jk_tab (fun _ => js_St.okG st_bad (fun _ _ _ _ _ => rfl)) (show jk_all (js_OkG 267) 0 tb_267 from ⟨⟨ki_267_0, ⟨ki_267_1, ⟨ki_267_2, ⟨ki_267_3, ⟨ki_267_4, ⟨ki_267_5, ⟨kbadG, ⟨kbadG, ⟨ki_267_8, ⟨ki_267_9, ⟨ki_267_10, ⟨kbadG, ⟨kbadG, ⟨ki_267_13, ⟨kbadG, ⟨ki_267_15, trivial⟩⟩⟩⟩⟩⟩⟩⟩⟩⟩⟩⟩⟩⟩⟩⟩, ⟨⟨ki_267_16, ⟨ki_267_17, ⟨kbadG, ⟨ki_267_19, ⟨ki_267_20, ⟨ki_267_21, ⟨kbadG, ⟨ki_267_23, ⟨ki_267_24, ⟨ki_267_25, ⟨ki_267_26, trivial⟩⟩⟩⟩⟩⟩⟩⟩⟩⟩⟩, trivial⟩⟩)
set_option maxRecDepth 20000 in
theorem mk_268 : js_mokG 268 := jk_tab (fun _ => js_St.okG st_bad (fun _ _ _ _ _ => rfl)) (show jk_all (js_OkG 268) 0 tb_268 from ⟨⟨ki_268_0, ⟨ki_268_1, ⟨ki_268_2, ⟨ki_268_3, ⟨ki_268_4, ⟨ki_268_5, ⟨kbadG, ⟨kbadG, ⟨ki_268_8, ⟨kbadG, ⟨kbadG, ⟨ki_268_11, ⟨ki_268_12, ⟨kbadG, ⟨kbadG, ⟨ki_268_15, trivial⟩⟩⟩⟩⟩⟩⟩⟩⟩⟩⟩⟩⟩⟩⟩⟩, ⟨⟨ki_268_16, ⟨ki_268_17, ⟨kbadG, ⟨kbadG, ⟨ki_268_20, ⟨kbadG, ⟨ki_268_22, ⟨ki_268_23, ⟨ki_268_24, ⟨ki_268_25, trivial⟩⟩⟩⟩⟩⟩⟩⟩⟩⟩, trivial⟩⟩)
set_option maxRecDepth 20000 in
theorem mk_269 : js_mokG 269 := jk_tab (fun _ => js_St.okG st_bad (fun _ _ _ _ _ => rfl)) (show jk_all (js_OkG 269) 0 tb_269 from ⟨⟨ki_269_0, ⟨ki_269_1, ⟨ki_269_2, ⟨ki_269_3, ⟨ki_269_4, ⟨ki_269_5, ⟨kbadG, ⟨kbadG, ⟨ki_269_8, ⟨ki_269_9, ⟨ki_269_10, ⟨kbadG, ⟨kbadG, ⟨ki_269_13, ⟨kbadG, ⟨ki_269_15, trivial⟩⟩⟩⟩⟩⟩⟩⟩⟩⟩⟩⟩⟩⟩⟩⟩, ⟨⟨ki_269_16, ⟨ki_269_17, ⟨kbadG, ⟨ki_269_19, ⟨ki_269_20, ⟨ki_269_21, ⟨ki_269_22, trivial⟩⟩⟩⟩⟩⟩⟩, trivial⟩⟩)
set_option maxRecDepth 20000 in
theorem mk_270 : js_mokG 270 := jk_tab (fun _ => js_St.okG st_bad (fun _ _ _ _ _ => rfl)) (show jk_all (js_OkG 270) 0 tb_270 from ⟨⟨ki_270_0, ⟨ki_270_1, ⟨ki_270_2, ⟨ki_270_3, ⟨ki_270_4, ⟨kbadG, ⟨kbadG, ⟨ki_270_7, ⟨ki_270_8, ⟨kbadG, ⟨kbadG, ⟨ki_270_11, ⟨ki_270_12, ⟨ki_270_13, ⟨ki_270_14, ⟨ki_270_15, trivial⟩⟩⟩⟩⟩⟩⟩⟩⟩⟩⟩⟩⟩⟩⟩⟩, trivial⟩)
set_option maxRecDepth 20000 in
theorem mk_271 : js_mokG 271 := jk_tab (fun _ => js_St.okG st_bad (fun _ _ _ _ _ => rfl)) (show jk_all (js_OkG 271) 0 tb_271 from ⟨⟨ki_271_0, ⟨ki_271_1, ⟨ki_271_2, ⟨ki_271_3, ⟨ki_271_4, ⟨ki_271_5, ⟨kbadG, ⟨kbadG, ⟨ki_271_8, ⟨kbadG, ⟨kbadG, ⟨ki_271_11, ⟨ki_271_12, ⟨kbadG, ⟨kbadG, ⟨ki_271_15, trivial⟩⟩⟩⟩⟩⟩⟩⟩⟩⟩⟩⟩⟩⟩⟩⟩, ⟨⟨ki_271_16, ⟨ki_271_17, ⟨kbadG, ⟨kbadG, ⟨ki_271_20, ⟨kbadG, ⟨ki_271_22, ⟨ki_271_23, ⟨ki_271_24, ⟨kbadG, ⟨ki_271_26, ⟨ki_271_27, ⟨ki_271_28, ⟨ki_271_29, trivial⟩⟩⟩⟩⟩⟩⟩⟩⟩⟩⟩⟩⟩⟩, trivial⟩⟩)
set_option maxRecDepth 20000 in
theorem mk_272 : js_mokG 272 := jk_tab (fun _ => js_St.okG st_bad (fun _ _ _ _ _ => rfl)) (show jk_all (js_OkG 272) 0 tb_272 from ⟨⟨ki_272_0, ⟨ki_272_1, ⟨ki_272_2, ⟨ki_272_3, ⟨ki_272_4, ⟨kbadG, ⟨kbadG, ⟨ki_272_7, ⟨ki_272_8, ⟨ki_272_9, ⟨kbadG, ⟨kbadG, ⟨ki_272_12, ⟨ki_272_13, ⟨ki_272_14, ⟨ki_272_15, trivial⟩⟩⟩⟩⟩⟩⟩⟩⟩⟩⟩⟩⟩⟩⟩⟩, ⟨⟨ki_272_16, trivial⟩, trivial⟩⟩)
set_option maxRecDepth 20000 in
theorem mk_273 : js_mokG 273 := jk_tab (fun _ => js_St.okG st_bad (fun _ _ _ _ _ => rfl)) (show jk_all (js_OkG 273) 0 tb_273 from ⟨⟨ki_273_0, ⟨ki_273_1, ⟨ki_273_2, ⟨ki_273_3, ⟨ki_273_4, ⟨ki_273_5, ⟨kbadG, ⟨kbadG, ⟨ki_273_8, ⟨ki_273_9, ⟨ki_273_10, ⟨kbadG, ⟨kbadG, ⟨ki_273_13, ⟨kbadG, ⟨ki_273_15, trivial⟩⟩⟩⟩⟩⟩⟩⟩⟩⟩⟩⟩⟩⟩⟩⟩, ⟨⟨ki_273_16, ⟨ki_273_17, ⟨kbadG, ⟨ki_273_19, ⟨ki_273_20, ⟨ki_273_21, ⟨ki_273_22, trivial⟩⟩⟩⟩⟩⟩⟩, trivial⟩⟩)
set_option maxRecDepth 20000 in
theorem mk_274 : js_mokG 274 := jk_tab (fun _ => js_St.okG st_bad (fun _ _ _ _ _ => rfl)) (show jk_all (js_OkG 274) 0 tb_274 from ⟨⟨ki_274_0, ⟨kbadG, ⟨ki_274_2, ⟨ki_274_3, ⟨ki_274_4, ⟨ki_274_5, ⟨ki_274_6, ⟨ki_274_7, ⟨kbadG, ⟨ki_274_9, ⟨kbadG, ⟨kbadG, ⟨ki_274_12, ⟨ki_274_13, ⟨ki_274_14, ⟨kbadG, trivial⟩⟩⟩⟩⟩⟩⟩⟩⟩⟩⟩⟩⟩⟩⟩⟩, ⟨⟨kbadG, ⟨ki_274_17, ⟨kbadG, ⟨ki_274_19, ⟨ki_274_20, ⟨ki_274_21, ⟨kbadG, ⟨ki_274_23, ⟨ki_274_24, ⟨ki_274_25, ⟨kbadG, ⟨ki_274_27, ⟨ki_274_28, ⟨ki_274_29, ⟨kbadG, ⟨ki_274_31, trivial⟩⟩⟩⟩⟩⟩⟩⟩⟩⟩⟩⟩⟩⟩⟩⟩, ⟨⟨ki_274_32, ⟨ki_274_33, ⟨kbadG, ⟨ki_274_35, ⟨ki_274_36, ⟨ki_274_37, ⟨ki_274_38, trivial⟩⟩⟩⟩⟩⟩⟩, trivial⟩⟩⟩)
set_option maxRecDepth 20000 in
theorem mk_275 : js_mokG 275 := jk_tab (fun _ => js_St.okG st_bad (fun _ _ _ _ _ => rfl)) (show jk_all (js_OkG 275) 0 tb_275 from ⟨⟨ki_275_0, ⟨kbadG, ⟨ki_275_2, ⟨ki_275_3, ⟨ki_275_4, ⟨ki_275_5, ⟨ki_275_6, ⟨ki_275_7, ⟨kbadG, ⟨kbadG, ⟨ki_275_10, ⟨ki_275_11, ⟨ki_275_12, ⟨kbadG, ⟨kbadG, ⟨ki_275_15, trivial⟩⟩⟩⟩⟩⟩⟩⟩⟩⟩⟩⟩⟩⟩⟩⟩, ⟨⟨kbadG, ⟨ki_275_17, ⟨ki_275_18, ⟨ki_275_19, ⟨kbadG, ⟨ki_275_21, ⟨ki_275_22, ⟨ki_275_23, ⟨kbadG, ⟨ki_275_25, ⟨ki_275_26, ⟨ki_275_27, ⟨kbadG, ⟨ki_275_29, ⟨ki_275_30, ⟨ki_275_31, trivial⟩⟩⟩⟩⟩⟩⟩⟩⟩⟩⟩⟩⟩⟩⟩⟩, ⟨⟨ki_275_32, trivial⟩, trivial⟩⟩⟩)
set_option maxRecDepth 20000 in
theorem mk_276 : js_mokG 276 := jk_tab (fun _ => js_St.okG st_bad (fun _ _ _ _ _ => rfl)) (show jk_all (js_OkG 276) 0 tb_276 from ⟨⟨ki_276_0, ⟨ki_276_1, ⟨ki_276_2, ⟨ki_276_3, ⟨ki_276_4, ⟨ki_276_5, ⟨kbadG, ⟨kbadG, ⟨ki_276_8, ⟨ki_276_9, ⟨ki_276_10, ⟨kbadG, ⟨kbadG, ⟨ki_276_13, ⟨kbadG, ⟨ki_276_15, trivial⟩⟩⟩⟩⟩⟩⟩⟩⟩⟩⟩⟩⟩⟩⟩⟩, ⟨⟨ki_276_16, ⟨ki_276_17, ⟨kbadG, ⟨ki_276_19, ⟨ki_276_20, ⟨ki_276_21, ⟨kbadG, ⟨ki_276_23, ⟨ki_276_24, ⟨ki_276_25, ⟨ki_276_26, trivial⟩⟩⟩⟩⟩⟩⟩⟩⟩⟩⟩, trivial⟩⟩)
set_option maxRecDepth 20000 in
theorem mk_277 : js_mokG 277 := jk_tab (fun _ => js_St.okG st_bad (fun _ _ _ _ _ => rfl)) (show jk_all (js_OkG 277) 0 tb_277 from ⟨⟨ki_277_0, ⟨kbadG, ⟨ki_277_2, ⟨ki_277_3, ⟨ki_277_4, ⟨ki_277_5, ⟨ki_277_6, ⟨ki_277_7, ⟨kbadG, ⟨kbadG, ⟨ki_277_10, ⟨ki_277_11, ⟨ki_277_12, ⟨kbadG, ⟨kbadG, ⟨ki_277_15, trivial⟩⟩⟩⟩⟩⟩⟩⟩⟩⟩⟩⟩⟩⟩⟩⟩, ⟨⟨kbadG, ⟨ki_277_17, ⟨ki_277_18, ⟨ki_277_19, ⟨kbadG, ⟨ki_277_21, ⟨ki_277_22, ⟨ki_277_23, ⟨kbadG, ⟨ki_277_25, ⟨ki_277_26, ⟨ki_277_27, ⟨ki_277_28, trivial⟩⟩⟩⟩⟩⟩⟩⟩⟩⟩⟩⟩⟩, trivial⟩⟩)
set_option maxRecDepth 20000 in
theorem mk_278 : js_mokG 278 := jk_tab (fun _ => js_St.okG st_bad (fun _ _ _ _ _ => rfl)) (show jk_all (js_OkG 278) 0 tb_278 from ⟨⟨ki_278_0, ⟨ki_278_1, ⟨ki_278_2, ⟨ki_278_3, ⟨ki_278_4, ⟨kbadG, ⟨kbadG, ⟨ki_278_7, ⟨ki_278_8, ⟨ki_278_9, ⟨kbadG, ⟨kbadG, ⟨ki_278_12, ⟨ki_278_13, ⟨ki_278_14, ⟨ki_278_15, trivial⟩⟩⟩⟩⟩⟩⟩⟩⟩⟩⟩⟩⟩⟩⟩⟩, ⟨⟨ki_278_16, trivial⟩, trivial⟩⟩)
set_option maxRecDepth 20000 in
theorem mk_279 : js_mokG 279 := jk_tab (fun _ => js_St.okG st_bad (fun _ _ _ _ _ => rfl)) (show jk_all (js_OkG 279) 0 tb_279 from ⟨⟨ki_279_0, ⟨ki_279_1, ⟨ki_279_2, ⟨ki_279_3, ⟨ki_279_4, ⟨kbadG, ⟨kbadG, ⟨ki_279_7, ⟨ki_279_8, ⟨kbadG, ⟨kbadG, ⟨ki_279_11, ⟨ki_279_12, ⟨ki_279_13, ⟨ki_279_14, ⟨ki_279_15, trivial⟩⟩⟩⟩⟩⟩⟩⟩⟩⟩⟩⟩⟩⟩⟩⟩, trivial⟩)
set_option maxRecDepth 20000 in
theorem mk_280 : js_mokG 280 := jk_tab (fun _ => js_St.okG st_bad (fun _ _ _ _ _ => rfl)) (show jk_all (js_OkG 280) 0 tb_280 from ⟨⟨ki_280_0, ⟨ki_280_1, ⟨ki_280_2, ⟨ki_280_3, ⟨kbadG, ⟨kbadG, ⟨ki_280_6, ⟨ki_280_7, ⟨ki_280_8, ⟨kbadG, ⟨kbadG, ⟨ki_280_11, ⟨ki_280_12, ⟨ki_280_13, ⟨ki_280_14, ⟨ki_280_15, trivial⟩⟩⟩⟩⟩⟩⟩⟩⟩⟩⟩⟩⟩⟩⟩⟩, trivial⟩)
set_option maxRecDepth 20000 in
theorem mk_281 : js_mokG 281 := jk_tab (fun _ => js_St.okG st_bad (fun _ _ _ _ _ => rfl)) (show jk_all (js_OkG 281) 0 tb_281 from ⟨⟨ki_281_0, ⟨ki_281_1, ⟨ki_281_2, ⟨ki_281_3, ⟨kbadG, ⟨kbadG, ⟨ki_281_6, ⟨ki_281_7, ⟨ki_281_8, ⟨kbadG, ⟨kbadG, ⟨ki_281_11, ⟨ki_281_12, ⟨ki_281_13, ⟨ki_281_14, ⟨ki_281_15, trivial⟩⟩⟩⟩⟩⟩⟩⟩⟩⟩⟩⟩⟩⟩⟩⟩, trivial⟩)
set_option maxRecDepth 20000 in
theorem mk_282 : js_mokG 282 := jk_tab (fun _ => js_St.okG st_bad (fun _ _ _ _ _ => rfl)) (show jk_all (js_OkG 282) 0 tb_282 from ⟨⟨ki_282_0, ⟨ki_282_1, ⟨ki_282_2, ⟨ki_282_3, ⟨kbadG, ⟨kbadG, ⟨ki_282_6, ⟨ki_282_7, ⟨ki_282_8, ⟨kbadG, ⟨kbadG, ⟨ki_282_11, ⟨ki_282_12, ⟨ki_282_13, ⟨ki_282_14, ⟨ki_282_15, trivial⟩⟩⟩⟩⟩⟩⟩⟩⟩⟩⟩⟩⟩⟩⟩⟩, trivial⟩)
set_option maxRecDepth 20000 in
theorem mk_283 : js_mokG 283 := jk_tab (fun _ => js_St.okG st_bad (fun _ _ _ _ _ => rfl)) (show jk_all (js_OkG 283) 0 tb_283 from ⟨⟨ki_283_0, ⟨ki_283_1, ⟨ki_283_2, ⟨ki_283_3, ⟨kbadG, ⟨kbadG, ⟨ki_283_6, ⟨ki_283_7, ⟨kbadG, ⟨kbadG, ⟨ki_283_10, ⟨ki_283_11, ⟨ki_283_12, ⟨ki_283_13, ⟨ki_283_14, trivial⟩⟩⟩⟩⟩⟩⟩⟩⟩⟩⟩⟩⟩⟩⟩, trivial⟩)
set_option maxRecDepth 20000 in
theorem mk_284 : js_mokG 284 := jk_tab (fun _ => js_St.okG st_bad (fun _ _ _ _ _ => rfl)) (show jk_all (js_OkG 284) 0 tb_284 from ⟨⟨ki_284_0, ⟨ki_284_1, ⟨ki_284_2, ⟨ki_284_3, ⟨ki_284_4, ⟨kbadG, ⟨kbadG, ⟨ki_284_7, ⟨ki_284_8, ⟨ki_284_9, ⟨kbadG, ⟨kbadG, ⟨ki_284_12, ⟨ki_284_13, ⟨ki_284_14, ⟨ki_284_15, trivial⟩⟩⟩⟩⟩⟩⟩⟩⟩⟩⟩⟩⟩⟩⟩⟩, ⟨⟨ki_284_16, trivial⟩, trivial⟩⟩)
set_option maxRecDepth 20000 in
theorem mk_285 : js_mokG 285 := jk_tab (fun _ => js_St.okG st_bad (fun _ _ _ _ _ => rfl)) (show jk_all (js_OkG 285) 0 tb_285 from ⟨⟨ki_285_0, ⟨ki_285_1, ⟨ki_285_2, ⟨ki_285_3, ⟨ki_285_4, ⟨kbadG, ⟨kbadG, ⟨ki_285_7, ⟨ki_285_8, ⟨ki_285_9, ⟨kbadG, ⟨kbadG, ⟨ki_285_12, ⟨ki_285_13, ⟨ki_285_14, ⟨ki_285_15, trivial⟩⟩⟩⟩⟩⟩⟩⟩⟩⟩⟩⟩⟩⟩⟩⟩, ⟨⟨ki_285_16, trivial⟩, trivial⟩⟩)
set_option maxRecDepth 20000 in
theorem mk_286 : js_mokG 286 := jk_tab (fun _ => js_St.okG st_bad (fun _ _ _ _ _ => rfl)) (show jk_all (js_OkG 286) 0 tb_286 from ⟨⟨ki_286_0, ⟨ki_286_1, ⟨ki_286_2, ⟨ki_286_3, ⟨ki_286_4, ⟨kbadG, ⟨kbadG, ⟨ki_286_7, ⟨ki_286_8, ⟨ki_286_9, ⟨kbadG, ⟨kbadG, ⟨ki_286_12, ⟨ki_286_13, ⟨ki_286_14, ⟨ki_286_15, trivial⟩⟩⟩⟩⟩⟩⟩⟩⟩⟩⟩⟩⟩⟩⟩⟩, ⟨⟨ki_286_16, trivial⟩, trivial⟩⟩)
set_option maxRecDepth 20000 in
theorem mk_287 : js_mokG 287 := jk_tab (fun _ => js_St.okG st_bad (fun _ _ _ _ _ => rfl)) (show jk_all (js_OkG 287) 0 tb_287 from ⟨⟨ki_287_0, ⟨ki_287_1, ⟨ki_287_2, ⟨ki_287_3, ⟨ki_287_4, ⟨kbadG, ⟨kbadG, ⟨ki_287_7, ⟨ki_287_8, ⟨ki_287_9, ⟨kbadG, ⟨kbadG, ⟨ki_287_12, ⟨ki_287_13, ⟨ki_287_14, ⟨ki_287_15, trivial⟩⟩⟩⟩⟩⟩⟩⟩⟩⟩⟩⟩⟩⟩⟩⟩, ⟨⟨ki_287_16, trivial⟩, trivial⟩⟩)
set_option maxRecDepth 20000 in
theorem mk_288 : js_mokG 288 := jk_tab (fun _ => js_St.okG st_bad (fun _ _ _ _ _ => rfl)) (show jk_all (js_OkG 288) 0 tb_288 from ⟨⟨ki_288_0, ⟨ki_288_1, ⟨ki_288_2, ⟨ki_288_3, ⟨kbadG, ⟨kbadG, ⟨ki_288_6, ⟨ki_288_7, ⟨ki_288_8, ⟨kbadG, ⟨kbadG, ⟨ki_288_11, ⟨ki_288_12, ⟨ki_288_13, ⟨ki_288_14, ⟨ki_288_15, trivial⟩⟩⟩⟩⟩⟩⟩⟩⟩⟩⟩⟩⟩⟩⟩⟩, ⟨⟨ki_288_16, ⟨ki_288_17, ⟨ki_288_18, trivial⟩⟩⟩, trivial⟩⟩)
set_option maxRecDepth 20000 in
theorem mk_289 : js_mokG 289 := jk_tab (fun _ => js_St.okG st_bad (fun _ _ _ _ _ => rfl)) (show jk_all (js_OkG 289) 0 tb_289 from ⟨⟨ki_289_0, ⟨ki_289_1, ⟨ki_289_2, ⟨ki_289_3, ⟨kbadG, ⟨kbadG, ⟨ki_289_6, ⟨ki_289_7, ⟨ki_289_8, ⟨kbadG, ⟨kbadG, ⟨ki_289_11, ⟨ki_289_12, ⟨ki_289_13, ⟨ki_289_14, ⟨ki_289_15, trivial⟩⟩⟩⟩⟩⟩⟩⟩⟩⟩⟩⟩⟩⟩⟩⟩, trivial⟩)
set_option maxRecDepth 20000 in
theorem mk_290 : js_mokG 290 := jk_tab (fun _ => js_St.okG st_bad (fun _ _ _ _ _ => rfl)) (show jk_all (js_OkG 290) 0 tb_290 from ⟨⟨ki_290_0, ⟨ki_290_1, ⟨ki_290_2, ⟨ki_290_3, ⟨kbadG, ⟨kbadG, ⟨ki_290_6, ⟨ki_290_7, ⟨ki_290_8, ⟨kbadG, ⟨kbadG, ⟨ki_290_11, ⟨ki_290_12, ⟨ki_290_13, ⟨ki_290_14, ⟨ki_290_15, trivial⟩⟩⟩⟩⟩⟩⟩⟩⟩⟩⟩⟩⟩⟩⟩⟩, trivial⟩)
set_option maxRecDepth 20000 in
theorem mk_291 : js_mokG 291 := jk_tab (fun _ => js_St.okG st_bad (fun _ _ _ _ _ => rfl)) (show jk_all (js_OkG 291) 0 tb_291 from ⟨⟨ki_291_0, ⟨ki_291_1, ⟨ki_291_2, ⟨ki_291_3, ⟨kbadG, ⟨kbadG, ⟨ki_291_6, ⟨ki_291_7, ⟨ki_291_8, ⟨kbadG, ⟨kbadG, ⟨ki_291_11, ⟨ki_291_12, ⟨ki_291_13, ⟨ki_291_14, ⟨ki_291_15, trivial⟩⟩⟩⟩⟩⟩⟩⟩⟩⟩⟩⟩⟩⟩⟩⟩, trivial⟩)
set_option maxRecDepth 20000 in
theorem mk_292 : js_mokG 292 := jk_tab (fun _ => js_St.okG st_bad (fun _ _ _ _ _ => rfl)) (show jk_all (js_OkG 292) 0 tb_292 from ⟨⟨ki_292_0, ⟨ki_292_1, ⟨ki_292_2, ⟨ki_292_3, ⟨kbadG, ⟨kbadG, ⟨ki_292_6, ⟨ki_292_7, ⟨ki_292_8, ⟨kbadG, ⟨kbadG, ⟨ki_292_11, ⟨ki_292_12, ⟨ki_292_13, ⟨ki_292_14, ⟨ki_292_15, trivial⟩⟩⟩⟩⟩⟩⟩⟩⟩⟩⟩⟩⟩⟩⟩⟩, trivial⟩)
set_option maxRecDepth 20000 in
theorem mk_293 : js_mokG 293 := jk_tab (fun _ => js_St.okG st_bad (fun _ _ _ _ _ => rfl)) (show jk_all (js_OkG 293) 0 tb_293 from ⟨⟨ki_293_0, ⟨kbadG, ⟨kbadG, ⟨ki_293_3, ⟨ki_293_4, ⟨kbadG, ⟨kbadG, ⟨ki_293_7, ⟨ki_293_8, ⟨kbadG, ⟨kbadG, ⟨ki_293_11, ⟨ki_293_12, ⟨kbadG, ⟨kbadG, ⟨ki_293_15, trivial⟩⟩⟩⟩⟩⟩⟩⟩⟩⟩⟩⟩⟩⟩⟩⟩, ⟨⟨ki_293_16, ⟨ki_293_17, ⟨kbadG, ⟨ki_293_19, ⟨ki_293_20, ⟨ki_293_21, ⟨kbadG, ⟨ki_293_23, ⟨kbadG, ⟨ki_293_25, ⟨ki_293_26, ⟨kbadG, ⟨ki_293_28, ⟨kbadG, ⟨ki_293_30, ⟨ki_293_31, trivial⟩⟩⟩⟩⟩⟩⟩⟩⟩⟩⟩⟩⟩⟩⟩⟩, ⟨⟨ki_293_32, ⟨kbadG, ⟨ki_293_34, ⟨ki_293_35, ⟨kbadG, ⟨kbadG, ⟨ki_293_38, ⟨ki_293_39, ⟨kbadG, ⟨ki_293_41, ⟨ki_293_42, ⟨kbadG, ⟨ki_293_44, ⟨ki_293_45, ⟨kbadG, ⟨kbadG, trivial⟩⟩⟩⟩⟩⟩⟩⟩⟩⟩⟩⟩⟩⟩⟩⟩, ⟨⟨kbadG, ⟨kbadG, ⟨kbadG, ⟨kbadG, ⟨kbadG, ⟨kbadG, ⟨kbadG, ⟨kbadG, ⟨kbadG, ⟨kbadG, ⟨kbadG, ⟨kbadG, ⟨kbadG, ⟨kbadG, ⟨kbadG, ⟨kbadG, trivial⟩⟩⟩⟩⟩⟩⟩⟩⟩⟩⟩⟩⟩⟩⟩⟩, ⟨⟨kbadG, ⟨kbadG, ⟨kbadG, ⟨kbadG, ⟨kbadG, ⟨kbadG, ⟨kbadG, ⟨kbadG, ⟨kbadG, ⟨kbadG, ⟨kbadG, ⟨kbadG, ⟨kbadG, ⟨kbadG, ⟨kbadG, ⟨kbadG, trivial⟩⟩⟩⟩⟩⟩⟩⟩⟩⟩⟩⟩⟩⟩⟩⟩, ⟨⟨kbadG, ⟨kbadG, ⟨kbadG, ⟨kbadG, ⟨kbadG, ⟨kbadG, ⟨kbadG, ⟨kbadG, ⟨kbadG, ⟨kbadG, ⟨kbadG, ⟨kbadG, ⟨kbadG, ⟨kbadG, ⟨kbadG, ⟨kbadG, trivial⟩⟩⟩⟩⟩⟩⟩⟩⟩⟩⟩⟩⟩⟩⟩⟩, ⟨⟨kbadG, ⟨kbadG, ⟨kbadG, ⟨kbadG, ⟨kbadG, ⟨kbadG, ⟨kbadG, ⟨kbadG, ⟨kbadG, ⟨kbadG, ⟨kbadG, ⟨kbadG, ⟨kbadG, ⟨kbadG, ⟨kbadG, ⟨kbadG, trivial⟩⟩⟩⟩⟩⟩⟩⟩⟩⟩⟩⟩⟩⟩⟩⟩, ⟨⟨kbadG, ⟨kbadG, ⟨kbadG, ⟨kbadG, ⟨kbadG, ⟨kbadG, ⟨kbadG, ⟨kbadG, ⟨kbadG, ⟨kbadG, ⟨kbadG, ⟨kbadG, ⟨kbadG, ⟨kbadG, ⟨kbadG, ⟨kbadG, trivial⟩⟩⟩⟩⟩⟩⟩⟩⟩⟩⟩⟩⟩⟩⟩⟩, ⟨⟨kbadG, ⟨kbadG, ⟨kbadG, ⟨kbadG, ⟨kbadG, ⟨kbadG, ⟨kbadG, ⟨kbadG, ⟨kbadG, ⟨kbadG, ⟨kbadG, ⟨kbadG, ⟨kbadG, ⟨kbadG, ⟨kbadG, ⟨kbadG, trivial⟩⟩⟩⟩⟩⟩⟩⟩⟩⟩⟩⟩⟩⟩⟩⟩, ⟨⟨kbadG, ⟨kbadG, ⟨kbadG, ⟨kbadG, ⟨kbadG, ⟨kbadG, ⟨kbadG, ⟨kbadG, ⟨kbadG, ⟨kbadG, ⟨kbadG, ⟨kbadG, ⟨kbadG, ⟨kbadG, ⟨kbadG, ⟨kbadG, trivial⟩⟩⟩⟩⟩⟩⟩⟩⟩⟩⟩⟩⟩⟩⟩⟩, ⟨⟨kbadG, ⟨kbadG, ⟨kbadG, ⟨kbadG, ⟨kbadG, ⟨kbadG, ⟨kbadG, ⟨kbadG, ⟨kbadG, ⟨kbadG, ⟨kbadG, ⟨kbadG, ⟨kbadG, ⟨kbadG, ⟨kbadG, ⟨kbadG, trivial⟩⟩⟩⟩⟩⟩⟩⟩⟩⟩⟩⟩⟩⟩⟩⟩, ⟨⟨kbadG, ⟨kbadG, ⟨kbadG, ⟨kbadG, ⟨kbadG, ⟨kbadG, ⟨kbadG, ⟨kbadG, ⟨kbadG, ⟨kbadG, ⟨kbadG, ⟨kbadG, ⟨kbadG, ⟨kbadG, ⟨kbadG, ⟨kbadG, trivial⟩⟩⟩⟩⟩⟩⟩⟩⟩⟩⟩⟩⟩⟩⟩⟩, ⟨⟨kbadG, ⟨kbadG, ⟨kbadG, ⟨kbadG, ⟨kbadG, ⟨kbadG, ⟨kbadG, ⟨kbadG, ⟨kbadG, ⟨kbadG, ⟨kbadG, ⟨kbadG, ⟨kbadG, ⟨kbadG, ⟨kbadG, ⟨kbadG, trivial⟩⟩⟩⟩⟩⟩⟩⟩⟩⟩⟩⟩⟩⟩⟩⟩, ⟨⟨kbadG, ⟨kbadG, ⟨kbadG, ⟨kbadG, ⟨kbadG, ⟨kbadG, ⟨kbadG, ⟨kbadG, ⟨kbadG, ⟨kbadG, ⟨kbadG, ⟨kbadG, ⟨kbadG, ⟨kbadG, ⟨kbadG, ⟨kbadG, trivial⟩⟩⟩⟩⟩⟩⟩⟩⟩⟩⟩⟩⟩⟩⟩⟩, ⟨⟨kbadG, ⟨kbadG, ⟨kbadG, ⟨kbadG, ⟨kbadG, ⟨kbadG, ⟨kbadG, ⟨kbadG, ⟨kbadG, ⟨kbadG, ⟨kbadG, ⟨kbadG, ⟨kbadG, ⟨kbadG, ⟨kbadG, ⟨kbadG, trivial⟩⟩⟩⟩⟩⟩⟩⟩⟩⟩⟩⟩⟩⟩⟩⟩, ⟨⟨kbadG, ⟨kbadG, ⟨kbadG, ⟨kbadG, ⟨kbadG, ⟨kbadG, ⟨kbadG, ⟨kbadG, ⟨kbadG, ⟨kbadG, ⟨kbadG, ⟨kbadG, ⟨kbadG, ⟨kbadG, ⟨kbadG, ⟨kbadG, trivial⟩⟩⟩⟩⟩⟩⟩⟩⟩⟩⟩⟩⟩⟩⟩⟩, ⟨⟨kbadG, ⟨kbadG, ⟨kbadG, ⟨kbadG, ⟨kbadG, ⟨kbadG, ⟨kbadG, ⟨kbadG, ⟨kbadG, ⟨kbadG, ⟨kbadG, ⟨kbadG, ⟨kbadG, ⟨kbadG, ⟨kbadG, ⟨kbadG, trivial⟩⟩⟩⟩⟩⟩⟩⟩⟩⟩⟩⟩⟩⟩⟩⟩, ⟨⟨kbadG, ⟨kbadG, ⟨kbadG, ⟨kbadG, ⟨ki_293_276, ⟨ki_293_277, ⟨ki_293_278, ⟨kbadG, ⟨ki_293_280, ⟨ki_293_281, ⟨ki_293_282, ⟨ki_293_283, ⟨ki_293_284, ⟨ki_293_285, ⟨kbadG, ⟨ki_293_287, trivial⟩⟩⟩⟩⟩⟩⟩⟩⟩⟩⟩⟩⟩⟩⟩⟩, ⟨⟨ki_293_288, ⟨ki_293_289, ⟨ki_293_290, ⟨ki_293_291, ⟨kbadG, ⟨ki_293_293, ⟨ki_293_294, ⟨ki_293_295, ⟨ki_293_296, ⟨ki_293_297, ⟨kbadG, ⟨ki_293_299, ⟨ki_293_300, ⟨ki_293_301, ⟨ki_293_302, ⟨ki_293_303, trivial⟩⟩⟩⟩⟩⟩⟩⟩⟩⟩⟩⟩⟩⟩⟩⟩, ⟨⟨kbadG, ⟨ki_293_305, ⟨ki_293_306, ⟨ki_293_307, ⟨ki_293_308, ⟨ki_293_309, ⟨kbadG, ⟨kbadG, ⟨ki_293_312, ⟨kbadG, ⟨ki_293_314, ⟨ki_293_315, ⟨ki_293_316, ⟨kbadG, ⟨ki_293_318, ⟨ki_293_319, trivial⟩⟩⟩⟩⟩⟩⟩⟩⟩⟩⟩⟩⟩⟩⟩⟩, ⟨⟨ki_293_320, ⟨ki_293_321, ⟨ki_293_322, ⟨ki_293_323, ⟨kbadG, ⟨ki_293_325, ⟨ki_293_326, ⟨ki_293_327, ⟨ki_293_328, ⟨ki_293_329, ⟨kbadG, ⟨ki_293_331, ⟨ki_293_332, ⟨ki_293_333, ⟨ki_293_334, ⟨ki_293_335, trivial⟩⟩⟩⟩⟩⟩⟩⟩⟩⟩⟩⟩⟩⟩⟩⟩, ⟨⟨kbadG, ⟨ki_293_337, ⟨ki_293_338, ⟨ki_293_339, ⟨ki_293_340, ⟨ki_293_341, ⟨kbadG, ⟨ki_293_343, ⟨ki_293_344, ⟨ki_293_345, ⟨ki_293_346, ⟨kbadG, ⟨kbadG, ⟨ki_293_349, ⟨kbadG, ⟨ki_293_351, trivial⟩⟩⟩⟩⟩⟩⟩⟩⟩⟩⟩⟩⟩⟩⟩⟩, ⟨⟨ki_293_352, ⟨kbadG, ⟨kbadG, ⟨ki_293_355, ⟨kbadG, ⟨ki_293_357, ⟨kbadG, ⟨kbadG, ⟨ki_293_360, ⟨ki_293_361, ⟨ki_293_362, ⟨kbadG, ⟨ki_293_364, ⟨kbadG, ⟨kbadG, ⟨ki_293_367, trivial⟩⟩⟩⟩⟩⟩⟩⟩⟩⟩⟩⟩⟩⟩⟩⟩, ⟨⟨ki_293_368, ⟨ki_293_369, ⟨ki_293_370, ⟨kbadG, ⟨ki_293_372, ⟨ki_293_373, ⟨ki_293_374, ⟨kbadG, ⟨kbadG, ⟨ki_293_377, ⟨ki_293_378, ⟨ki_293_379, ⟨kbadG, ⟨kbadG, ⟨ki_293_382, ⟨ki_293_383, trivial⟩⟩⟩⟩⟩⟩⟩⟩⟩⟩⟩⟩⟩⟩⟩⟩, ⟨⟨ki_293_384, ⟨kbadG, ⟨ki_293_386, ⟨ki_293_387, ⟨ki_293_388, ⟨ki_293_389, ⟨ki_293_390, ⟨kbadG, ⟨kbadG, ⟨ki_293_393, ⟨kbadG, ⟨ki_293_395, ⟨ki_293_396, ⟨ki_293_397, ⟨kbadG, ⟨ki_293_399, trivial⟩⟩⟩⟩⟩⟩⟩⟩⟩⟩⟩⟩⟩⟩⟩⟩, ⟨⟨ki_293_400, ⟨ki_293_401, ⟨ki_293_402, ⟨kbadG, ⟨kbadG, ⟨ki_293_405, ⟨kbadG, ⟨ki_293_407, ⟨ki_293_408, ⟨kbadG, ⟨kbadG, ⟨ki_293_411, ⟨kbadG, ⟨ki_293_413, ⟨kbadG, ⟨kbadG, trivial⟩⟩⟩⟩⟩⟩⟩⟩⟩⟩⟩⟩⟩⟩⟩⟩, ⟨⟨ki_293_416, ⟨ki_293_417, ⟨ki_293_418, ⟨kbadG, ⟨ki_293_420, ⟨kbadG, ⟨kbadG, ⟨ki_293_423, ⟨ki_293_424, ⟨ki_293_425, ⟨ki_293_426, ⟨kbadG, ⟨ki_293_428, ⟨ki_293_429, ⟨ki_293_430, ⟨kbadG, trivial⟩⟩⟩⟩⟩⟩⟩⟩⟩⟩⟩⟩⟩⟩⟩⟩, ⟨⟨kbadG, ⟨ki_293_433, ⟨ki_293_434, ⟨ki_293_435, ⟨kbadG, ⟨kbadG, ⟨ki_293_438, ⟨ki_293_439, ⟨kbadG, ⟨kbadG, ⟨ki_293_442, ⟨ki_293_443, ⟨kbadG, ⟨kbadG, ⟨ki_293_446, ⟨kbadG, trivial⟩⟩⟩⟩⟩⟩⟩⟩⟩⟩⟩⟩⟩⟩⟩⟩, ⟨⟨kbadG, ⟨ki_293_449, ⟨ki_293_450, ⟨ki_293_451, ⟨ki_293_452, ⟨kbadG, ⟨kbadG, ⟨ki_293_455, ⟨ki_293_456, ⟨kbadG, ⟨kbadG, ⟨ki_293_459, ⟨kbadG, ⟨kbadG, ⟨ki_293_462, ⟨ki_293_463, trivial⟩⟩⟩⟩⟩⟩⟩⟩⟩⟩⟩⟩⟩⟩⟩⟩, ⟨⟨ki_293_464, ⟨ki_293_465, ⟨ki_293_466, ⟨kbadG, ⟨ki_293_468, ⟨ki_293_469, ⟨ki_293_470, ⟨ki_293_471, ⟨ki_293_472, ⟨kbadG, ⟨kbadG, ⟨ki_293_475, ⟨kbadG, ⟨ki_293_477, ⟨ki_293_478, ⟨ki_293_479, trivial⟩⟩⟩⟩⟩⟩⟩⟩⟩⟩⟩⟩⟩⟩⟩⟩, ⟨⟨kbadG, ⟨ki_293_481, ⟨ki_293_482, ⟨ki_293_483, ⟨ki_293_484, ⟨kbadG, ⟨kbadG, ⟨ki_293_487, ⟨kbadG, ⟨ki_293_489, ⟨ki_293_490, ⟨kbadG, ⟨kbadG, ⟨ki_293_493, ⟨kbadG, ⟨ki_293_495, trivial⟩⟩⟩⟩⟩⟩⟩⟩⟩⟩⟩⟩⟩⟩⟩⟩, ⟨⟨kbadG, ⟨kbadG, ⟨ki_293_498, ⟨ki_293_499, ⟨ki_293_500, ⟨kbadG, ⟨ki_293_502, ⟨kbadG, ⟨kbadG, ⟨ki_293_505, ⟨ki_293_506, ⟨ki_293_507, ⟨ki_293_508, ⟨kbadG, ⟨ki_293_510, ⟨ki_293_511, trivial⟩⟩⟩⟩⟩⟩⟩⟩⟩⟩⟩⟩⟩⟩⟩⟩, ⟨⟨ki_293_512, ⟨kbadG, ⟨kbadG, ⟨ki_293_515, ⟨ki_293_516, ⟨ki_293_517, ⟨kbadG, ⟨kbadG, ⟨ki_293_520, ⟨ki_293_521, ⟨ki_293_522, ⟨kbadG, ⟨ki_293_524, ⟨ki_293_525, ⟨ki_293_526, ⟨ki_293_527, trivial⟩⟩⟩⟩⟩⟩⟩⟩⟩⟩⟩⟩⟩⟩⟩⟩, ⟨⟨kbadG, ⟨kbadG, ⟨ki_293_530, ⟨ki_293_531, ⟨ki_293_532, ⟨kbadG, ⟨ki_293_534, ⟨ki_293_535, ⟨ki_293_536, ⟨ki_293_537, ⟨kbadG, ⟨kbadG, ⟨ki_293_540, ⟨kbadG, ⟨kbadG, ⟨ki_293_543, trivial⟩⟩⟩⟩⟩⟩⟩⟩⟩⟩⟩⟩⟩⟩⟩⟩, ⟨⟨ki_293_544, ⟨ki_293_545, ⟨ki_293_546, ⟨ki_293_547, ⟨kbadG, ⟨ki_293_549, ⟨ki_293_550, ⟨ki_293_551, ⟨ki_293_552, ⟨ki_293_553, ⟨kbadG, ⟨kbadG, ⟨ki_293_556, ⟨kbadG, ⟨ki_293_558, ⟨ki_293_559, trivial⟩⟩⟩⟩⟩⟩⟩⟩⟩⟩⟩⟩⟩⟩⟩⟩, ⟨⟨ki_293_560, ⟨kbadG, ⟨ki_293_562, ⟨ki_293_563, ⟨ki_293_564, ⟨ki_293_565, ⟨kbadG, ⟨kbadG, ⟨ki_293_568, ⟨kbadG, ⟨ki_293_570, ⟨ki_293_571, ⟨kbadG, ⟨kbadG, ⟨ki_293_574, ⟨kbadG, trivial⟩⟩⟩⟩⟩⟩⟩⟩⟩⟩⟩⟩⟩⟩⟩⟩, ⟨⟨ki_293_576, ⟨kbadG, ⟨kbadG, ⟨ki_293_579, ⟨ki_293_580, ⟨ki_293_581, ⟨kbadG, ⟨ki_293_583, ⟨kbadG, ⟨kbadG, ⟨ki_293_586, ⟨ki_293_587, ⟨ki_293_588, ⟨ki_293_589, ⟨kbadG, ⟨ki_293_591, trivial⟩⟩⟩⟩⟩⟩⟩⟩⟩⟩⟩⟩⟩⟩⟩⟩, ⟨⟨ki_293_592, ⟨ki_293_593, ⟨kbadG, ⟨kbadG, ⟨ki_293_596, ⟨ki_293_597, ⟨ki_293_598, ⟨kbadG, ⟨kbadG, ⟨ki_293_601, ⟨ki_293_602, ⟨ki_293_603, ⟨kbadG, ⟨ki_293_605, ⟨ki_293_606, ⟨ki_293_607, trivial⟩⟩⟩⟩⟩⟩⟩⟩⟩⟩⟩⟩⟩⟩⟩⟩, ⟨⟨ki_293_608, ⟨ki_293_609, ⟨kbadG, ⟨kbadG, ⟨ki_293_612, ⟨kbadG, ⟨ki_293_614, ⟨ki_293_615, ⟨ki_293_616, ⟨kbadG, ⟨ki_293_618, ⟨ki_293_619, ⟨ki_293_620, ⟨ki_293_621, ⟨kbadG, ⟨kbadG, trivial⟩⟩⟩⟩⟩⟩⟩⟩⟩⟩⟩⟩⟩⟩⟩⟩, ⟨⟨ki_293_624, ⟨kbadG, ⟨ki_293_626, ⟨ki_293_627, ⟨kbadG, ⟨kbadG, ⟨ki_293_630, ⟨kbadG, ⟨ki_293_632, ⟨kbadG, ⟨kbadG, ⟨ki_293_635, ⟨ki_293_636, ⟨ki_293_637, ⟨kbadG, ⟨ki_293_639, trivial⟩⟩⟩⟩⟩⟩⟩⟩⟩⟩⟩⟩⟩⟩⟩⟩, ⟨⟨kbadG, ⟨kbadG, ⟨ki_293_642, ⟨ki_293_643, ⟨ki_293_644, ⟨ki_293_645, ⟨kbadG, ⟨ki_293_647, ⟨ki_293_648, ⟨ki_293_649, ⟨kbadG, ⟨kbadG, ⟨ki_293_652, ⟨ki_293_653, ⟨ki_293_654, ⟨kbadG, trivial⟩⟩⟩⟩⟩⟩⟩⟩⟩⟩⟩⟩⟩⟩⟩⟩, ⟨⟨kbadG, ⟨ki_293_657, ⟨ki_293_658, ⟨ki_293_659, ⟨kbadG, ⟨ki_293_661, ⟨ki_293_662, ⟨ki_293_663, ⟨ki_293_664, ⟨ki_293_665, ⟨kbadG, ⟨ki_293_667, ⟨ki_293_668, ⟨ki_293_669, ⟨ki_293_670, ⟨ki_293_671, trivial⟩⟩⟩⟩⟩⟩⟩⟩⟩⟩⟩⟩⟩⟩⟩⟩, ⟨⟨kbadG, ⟨kbadG, ⟨ki_293_674, ⟨kbadG, ⟨ki_293_676, ⟨ki_293_677, ⟨ki_293_678, ⟨kbadG, ⟨ki_293_680, ⟨ki_293_681, ⟨ki_293_682, ⟨ki_293_683, ⟨ki_293_684, ⟨kbadG, ⟨ki_293_686, ⟨ki_293_687, trivial⟩⟩⟩⟩⟩⟩⟩⟩⟩⟩⟩⟩⟩⟩⟩⟩, ⟨⟨ki_293_688, ⟨ki_293_689, ⟨kbadG, ⟨kbadG, ⟨ki_293_692, ⟨kbadG, ⟨ki_293_694, ⟨ki_293_695, ⟨kbadG, ⟨kbadG, ⟨ki_293_698, ⟨kbadG, ⟨ki_293_700, ⟨kbadG, ⟨kbadG, ⟨ki_293_703, trivial⟩⟩⟩⟩⟩⟩⟩⟩⟩⟩⟩⟩⟩⟩⟩⟩, ⟨⟨ki_293_704, ⟨ki_293_705, ⟨kbadG, ⟨ki_293_707, ⟨kbadG, ⟨kbadG, ⟨ki_293_710, ⟨ki_293_711, ⟨ki_293_712, ⟨ki_293_713, ⟨kbadG, ⟨ki_293_715, ⟨ki_293_716, ⟨ki_293_717, ⟨kbadG, ⟨kbadG, trivial⟩⟩⟩⟩⟩⟩⟩⟩⟩⟩⟩⟩⟩⟩⟩⟩, ⟨⟨ki_293_720, ⟨ki_293_721, ⟨ki_293_722, ⟨kbadG, ⟨kbadG, ⟨ki_293_725, ⟨ki_293_726, ⟨ki_293_727, ⟨kbadG, ⟨ki_293_729, ⟨ki_293_730, ⟨ki_293_731, ⟨ki_293_732, ⟨ki_293_733, ⟨kbadG, ⟨kbadG, trivial⟩⟩⟩⟩⟩⟩⟩⟩⟩⟩⟩⟩⟩⟩⟩⟩, ⟨⟨ki_293_736, ⟨kbadG, ⟨ki_293_738, ⟨ki_293_739, ⟨ki_293_740, ⟨kbadG, ⟨ki_293_742, ⟨ki_293_743, ⟨ki_293_744, ⟨ki_293_745, ⟨kbadG, ⟨kbadG, ⟨ki_293_748, ⟨kbadG, ⟨ki_293_750, ⟨ki_293_751, trivial⟩⟩⟩⟩⟩⟩⟩⟩⟩⟩⟩⟩⟩⟩⟩⟩, ⟨⟨kbadG, ⟨kbadG, ⟨ki_293_754, ⟨kbadG, ⟨ki_293_756, ⟨kbadG, ⟨kbadG, ⟨ki_293_759, ⟨ki_293_760, ⟨ki_293_761, ⟨kbadG, ⟨ki_293_763, ⟨kbadG, ⟨kbadG, ⟨ki_293_766, ⟨ki_293_767, trivial⟩⟩⟩⟩⟩⟩⟩⟩⟩⟩⟩⟩⟩⟩⟩⟩, ⟨⟨ki_293_768, ⟨ki_293_769, ⟨kbadG, ⟨ki_293_771, ⟨kbadG, ⟨kbadG, ⟨ki_293_774, ⟨ki_293_775, ⟨kbadG, ⟨kbadG, ⟨ki_293_778, ⟨ki_293_779, ⟨ki_293_780, ⟨kbadG, ⟨kbadG, ⟨ki_293_783, trivial⟩⟩⟩⟩⟩⟩⟩⟩⟩⟩⟩⟩⟩⟩⟩⟩, ⟨⟨ki_293_784, ⟨ki_293_785, ⟨kbadG, ⟨kbadG, ⟨ki_293_788, ⟨ki_293_789, ⟨ki_293_790, ⟨kbadG, ⟨ki_293_792, ⟨ki_293_793, ⟨ki_293_794, ⟨ki_293_795, ⟨ki_293_796, ⟨kbadG, ⟨kbadG, ⟨ki_293_799, trivial⟩⟩⟩⟩⟩⟩⟩⟩⟩⟩⟩⟩⟩⟩⟩⟩, ⟨⟨kbadG, ⟨ki_293_801, ⟨ki_293_802, ⟨ki_293_803, ⟨kbadG, ⟨ki_293_805, ⟨ki_293_806, ⟨ki_293_807, ⟨ki_293_808, ⟨kbadG, ⟨kbadG, ⟨ki_293_811, ⟨kbadG, ⟨ki_293_813, ⟨ki_293_814, ⟨kbadG, trivial⟩⟩⟩⟩⟩⟩⟩⟩⟩⟩⟩⟩⟩⟩⟩⟩, ⟨⟨kbadG, ⟨ki_293_817, ⟨kbadG, ⟨ki_293_819, ⟨kbadG, ⟨kbadG, ⟨ki_293_822, ⟨ki_293_823, ⟨ki_293_824, ⟨kbadG, ⟨ki_293_826, ⟨kbadG, ⟨kbadG, ⟨ki_293_829, ⟨ki_293_830, ⟨ki_293_831, trivial⟩⟩⟩⟩⟩⟩⟩⟩⟩⟩⟩⟩⟩⟩⟩⟩, ⟨⟨ki_293_832, ⟨kbadG, ⟨ki_293_834, ⟨ki_293_835, ⟨ki_293_836, ⟨kbadG, ⟨kbadG, ⟨ki_293_839, ⟨ki_293_840, ⟨ki_293_841, ⟨kbadG, ⟨kbadG, ⟨ki_293_844, ⟨ki_293_845, ⟨kbadG, ⟨kbadG, trivial⟩⟩⟩⟩⟩⟩⟩⟩⟩⟩⟩⟩⟩⟩⟩⟩, ⟨⟨ki_293_848, ⟨ki_293_849, ⟨kbadG, ⟨kbadG, ⟨ki_293_852, ⟨kbadG, ⟨kbadG, ⟨ki_293_855, ⟨ki_293_856, ⟨ki_293_857, ⟨ki_293_858, ⟨ki_293_859, ⟨kbadG, ⟨ki_293_861, ⟨ki_293_862, ⟨ki_293_863, trivial⟩⟩⟩⟩⟩⟩⟩⟩⟩⟩⟩⟩⟩⟩⟩⟩, ⟨⟨ki_293_864, ⟨ki_293_865, ⟨kbadG, ⟨ki_293_867, ⟨ki_293_868, ⟨ki_293_869, ⟨ki_293_870, ⟨ki_293_871, ⟨kbadG, ⟨ki_293_873, ⟨ki_293_874, ⟨ki_293_875, ⟨ki_293_876, ⟨ki_293_877, ⟨kbadG, ⟨kbadG, trivial⟩⟩⟩⟩⟩⟩⟩⟩⟩⟩⟩⟩⟩⟩⟩⟩, ⟨⟨ki_293_880, ⟨kbadG, ⟨ki_293_882, ⟨ki_293_883, ⟨ki_293_884, ⟨kbadG, ⟨ki_293_886, ⟨ki_293_887, ⟨ki_293_888, ⟨ki_293_889, ⟨ki_293_890, ⟨kbadG, ⟨ki_293_892, ⟨ki_293_893, ⟨ki_293_894, ⟨ki_293_895, trivial⟩⟩⟩⟩⟩⟩⟩⟩⟩⟩⟩⟩⟩⟩⟩⟩, ⟨⟨ki_293_896, ⟨kbadG, ⟨ki_293_898, ⟨ki_293_899, ⟨ki_293_900, ⟨ki_293_901, ⟨kbadG, ⟨kbadG, ⟨ki_293_904, ⟨kbadG, ⟨ki_293_906, ⟨ki_293_907, ⟨kbadG, ⟨kbadG, ⟨ki_293_910, ⟨kbadG, trivial⟩⟩⟩⟩⟩⟩⟩⟩⟩⟩⟩⟩⟩⟩⟩⟩, ⟨⟨ki_293_912, ⟨kbadG, ⟨kbadG, ⟨ki_293_915, ⟨ki_293_916, ⟨ki_293_917, ⟨kbadG, ⟨ki_293_919, ⟨kbadG, ⟨kbadG, ⟨ki_293_922, ⟨ki_293_923, ⟨ki_293_924, ⟨ki_293_925, ⟨kbadG, ⟨ki_293_927, trivial⟩⟩⟩⟩⟩⟩⟩⟩⟩⟩⟩⟩⟩⟩⟩⟩, ⟨⟨ki_293_928, ⟨ki_293_929, ⟨kbadG, ⟨kbadG, ⟨ki_293_932, ⟨ki_293_933, ⟨ki_293_934, ⟨kbadG, ⟨kbadG, ⟨ki_293_937, ⟨ki_293_938, ⟨ki_293_939, ⟨kbadG, ⟨ki_293_941, ⟨ki_293_942, ⟨ki_293_943, trivial⟩⟩⟩⟩⟩⟩⟩⟩⟩⟩⟩⟩⟩⟩⟩⟩, ⟨⟨ki_293_944, ⟨ki_293_945, ⟨kbadG, ⟨kbadG, ⟨ki_293_948, ⟨kbadG, ⟨ki_293_950, ⟨ki_293_951, ⟨ki_293_952, ⟨kbadG, ⟨ki_293_954, ⟨ki_293_955, ⟨ki_293_956, ⟨ki_293_957, ⟨kbadG, ⟨kbadG, trivial⟩⟩⟩⟩⟩⟩⟩⟩⟩⟩⟩⟩⟩⟩⟩⟩, ⟨⟨ki_293_960, ⟨kbadG, ⟨ki_293_962, ⟨ki_293_963, ⟨kbadG, ⟨kbadG, ⟨ki_293_966, ⟨kbadG, ⟨ki_293_968, ⟨kbadG, ⟨kbadG, ⟨ki_293_971, ⟨ki_293_972, ⟨ki_293_973, ⟨kbadG, ⟨ki_293_975, trivial⟩⟩⟩⟩⟩⟩⟩⟩⟩⟩⟩⟩⟩⟩⟩⟩, ⟨⟨kbadG, ⟨kbadG, ⟨ki_293_978, ⟨ki_293_979, ⟨ki_293_980, ⟨ki_293_981, ⟨kbadG, ⟨ki_293_983, ⟨ki_293_984, ⟨ki_293_985, ⟨kbadG, ⟨kbadG, ⟨ki_293_988, ⟨ki_293_989, ⟨ki_293_990, ⟨kbadG, trivial⟩⟩⟩⟩⟩⟩⟩⟩⟩⟩⟩⟩⟩⟩⟩⟩, ⟨⟨kbadG, ⟨ki_293_993, ⟨ki_293_994, ⟨ki_293_995, ⟨kbadG, ⟨ki_293_997, ⟨ki_293_998, ⟨ki_293_999, ⟨ki_293_1000, ⟨ki_293_1001, ⟨kbadG, ⟨ki_293_1003, ⟨ki_293_1004, ⟨ki_293_1005, ⟨ki_293_1006, ⟨ki_293_1007, trivial⟩⟩⟩⟩⟩⟩⟩⟩⟩⟩⟩⟩⟩⟩⟩⟩, ⟨⟨kbadG, ⟨kbadG, ⟨ki_293_1010, ⟨kbadG, ⟨ki_293_1012, ⟨ki_293_1013, ⟨ki_293_1014, ⟨kbadG, ⟨ki_293_1016, ⟨ki_293_1017, ⟨ki_293_1018, ⟨ki_293_1019, ⟨ki_293_1020, ⟨kbadG, ⟨ki_293_1022, ⟨ki_293_1023, trivial⟩⟩⟩⟩⟩⟩⟩⟩⟩⟩⟩⟩⟩⟩⟩⟩, ⟨⟨ki_293_1024, ⟨ki_293_1025, ⟨kbadG, ⟨kbadG, ⟨ki_293_1028, ⟨kbadG, ⟨ki_293_1030, ⟨ki_293_1031, ⟨kbadG, ⟨kbadG, ⟨ki_293_1034, ⟨kbadG, ⟨ki_293_1036, ⟨kbadG, ⟨kbadG, ⟨ki_293_1039, trivial⟩⟩⟩⟩⟩⟩⟩⟩⟩⟩⟩⟩⟩⟩⟩⟩, ⟨⟨ki_293_1040, ⟨ki_293_1041, ⟨kbadG, ⟨ki_293_1043, ⟨kbadG, ⟨kbadG, ⟨ki_293_1046, ⟨ki_293_1047, ⟨ki_293_1048, ⟨ki_293_1049, ⟨kbadG, ⟨ki_293_1051, ⟨ki_293_1052, ⟨ki_293_1053, ⟨kbadG, ⟨kbadG, trivial⟩⟩⟩⟩⟩⟩⟩⟩⟩⟩⟩⟩⟩⟩⟩⟩, ⟨⟨ki_293_1056, ⟨ki_293_1057, ⟨ki_293_1058, ⟨kbadG, ⟨kbadG, ⟨ki_293_1061, ⟨ki_293_1062, ⟨ki_293_1063, ⟨kbadG, ⟨ki_293_1065, ⟨ki_293_1066, ⟨ki_293_1067, ⟨ki_293_1068, ⟨ki_293_1069, ⟨kbadG, ⟨ki_293_1071, trivial⟩⟩⟩⟩⟩⟩⟩⟩⟩⟩⟩⟩⟩⟩⟩⟩, ⟨⟨ki_293_1072, ⟨ki_293_1073, ⟨ki_293_1074, ⟨ki_293_1075, ⟨kbadG, ⟨kbadG, ⟨ki_293_1078, ⟨kbadG, ⟨ki_293_1080, ⟨ki_293_1081, ⟨ki_293_1082, ⟨kbadG, ⟨ki_293_1084, ⟨ki_293_1085, ⟨ki_293_1086, ⟨ki_293_1087, trivial⟩⟩⟩⟩⟩⟩⟩⟩⟩⟩⟩⟩⟩⟩⟩⟩, ⟨⟨ki_293_1088, ⟨kbadG, ⟨ki_293_1090, ⟨ki_293_1091, ⟨ki_293_1092, ⟨ki_293_1093, ⟨kbadG, ⟨kbadG, ⟨ki_293_1096, ⟨kbadG, ⟨ki_293_1098, ⟨ki_293_1099, ⟨kbadG, ⟨kbadG, ⟨ki_293_1102, ⟨kbadG, trivial⟩⟩⟩⟩⟩⟩⟩⟩⟩⟩⟩⟩⟩⟩⟩⟩, ⟨⟨ki_293_1104, ⟨kbadG, ⟨kbadG, ⟨ki_293_1107, ⟨ki_293_1108, ⟨ki_293_1109, ⟨kbadG, ⟨ki_293_1111, ⟨kbadG, ⟨kbadG, ⟨ki_293_1114, ⟨ki_293_1115, ⟨ki_293_1116, ⟨ki_293_1117, ⟨kbadG, ⟨ki_293_1119, trivial⟩⟩⟩⟩⟩⟩⟩⟩⟩⟩⟩⟩⟩⟩⟩⟩, ⟨⟨ki_293_1120, ⟨ki_293_1121, ⟨kbadG, ⟨kbadG, ⟨ki_293_1124, ⟨ki_293_1125, ⟨ki_293_1126, ⟨kbadG, ⟨kbadG, ⟨ki_293_1129, ⟨ki_293_1130, ⟨ki_293_1131, ⟨kbadG, ⟨ki_293_1133, ⟨ki_293_1134, ⟨ki_293_1135, trivial⟩⟩⟩⟩⟩⟩⟩⟩⟩⟩⟩⟩⟩⟩⟩⟩, ⟨⟨ki_293_1136, ⟨ki_293_1137, ⟨kbadG, ⟨ki_293_1139, ⟨ki_293_1140, ⟨ki_293_1141, ⟨ki_293_1142, ⟨ki_293_1143, ⟨kbadG, ⟨kbadG, ⟨ki_293_1146, ⟨kbadG, ⟨ki_293_1148, ⟨ki_293_1149, ⟨ki_293_1150, ⟨kbadG, trivial⟩⟩⟩⟩⟩⟩⟩⟩⟩⟩⟩⟩⟩⟩⟩⟩, ⟨⟨ki_293_1152, ⟨ki_293_1153, ⟨ki_293_1154, ⟨ki_293_1155, ⟨ki_293_1156, ⟨kbadG, ⟨ki_293_1158, ⟨ki_293_1159, ⟨ki_293_1160, ⟨ki_293_1161, ⟨kbadG, ⟨kbadG, ⟨ki_293_1164, ⟨kbadG, ⟨ki_293_1166, ⟨ki_293_1167, trivial⟩⟩⟩⟩⟩⟩⟩⟩⟩⟩⟩⟩⟩⟩⟩⟩, ⟨⟨kbadG, ⟨kbadG, ⟨ki_293_1170, ⟨kbadG, ⟨ki_293_1172, ⟨kbadG, ⟨kbadG, ⟨ki_293_1175, ⟨ki_293_1176, ⟨ki_293_1177, ⟨kbadG, ⟨ki_293_1179, ⟨kbadG, ⟨kbadG, ⟨ki_293_1182, ⟨ki_293_1183, trivial⟩⟩⟩⟩⟩⟩⟩⟩⟩⟩⟩⟩⟩⟩⟩⟩, ⟨⟨ki_293_1184, ⟨ki_293_1185, ⟨kbadG, ⟨ki_293_1187, ⟨ki_293_1188, ⟨ki_293_1189, ⟨kbadG, ⟨kbadG, ⟨ki_293_1192, ⟨ki_293_1193, ⟨ki_293_1194, ⟨kbadG, ⟨kbadG, ⟨ki_293_1197, ⟨ki_293_1198, ⟨kbadG, trivial⟩⟩⟩⟩⟩⟩⟩⟩⟩⟩⟩⟩⟩⟩⟩⟩, ⟨⟨kbadG, ⟨ki_293_1201, ⟨ki_293_1202, ⟨kbadG, ⟨kbadG, ⟨ki_293_1205, ⟨kbadG, ⟨kbadG, ⟨ki_293_1208, ⟨ki_293_1209, ⟨ki_293_1210, ⟨ki_293_1211, ⟨ki_293_1212, ⟨kbadG, ⟨ki_293_1214, ⟨ki_293_1215, trivial⟩⟩⟩⟩⟩⟩⟩⟩⟩⟩⟩⟩⟩⟩⟩⟩, ⟨⟨ki_293_1216, ⟨ki_293_1217, ⟨ki_293_1218, ⟨kbadG, ⟨ki_293_1220, ⟨ki_293_1221, ⟨ki_293_1222, ⟨ki_293_1223, ⟨ki_293_1224, ⟨kbadG, ⟨kbadG, ⟨ki_293_1227, ⟨kbadG, ⟨ki_293_1229, ⟨ki_293_1230, ⟨ki_293_1231, trivial⟩⟩⟩⟩⟩⟩⟩⟩⟩⟩⟩⟩⟩⟩⟩⟩, ⟨⟨kbadG, ⟨ki_293_1233, ⟨ki_293_1234, ⟨ki_293_1235, ⟨ki_293_1236, ⟨ki_293_1237, ⟨kbadG, ⟨ki_293_1239, ⟨ki_293_1240, ⟨ki_293_1241, ⟨ki_293_1242, ⟨kbadG, ⟨kbadG, ⟨ki_293_1245, ⟨kbadG, ⟨ki_293_1247, trivial⟩⟩⟩⟩⟩⟩⟩⟩⟩⟩⟩⟩⟩⟩⟩⟩, ⟨⟨ki_293_1248, ⟨kbadG, ⟨kbadG, ⟨ki_293_1251, ⟨kbadG, ⟨ki_293_1253, ⟨kbadG, ⟨kbadG, ⟨ki_293_1256, ⟨ki_293_1257, ⟨ki_293_1258, ⟨kbadG, ⟨ki_293_1260, ⟨kbadG, ⟨kbadG, ⟨ki_293_1263, trivial⟩⟩⟩⟩⟩⟩⟩⟩⟩⟩⟩⟩⟩⟩⟩⟩, ⟨⟨ki_293_1264, ⟨ki_293_1265, ⟨ki_293_1266, ⟨kbadG, ⟨ki_293_1268, ⟨kbadG, ⟨kbadG, ⟨ki_293_1271, ⟨ki_293_1272, ⟨kbadG, ⟨kbadG, ⟨ki_293_1275, ⟨ki_293_1276, ⟨ki_293_1277, ⟨kbadG, ⟨kbadG, trivial⟩⟩⟩⟩⟩⟩⟩⟩⟩⟩⟩⟩⟩⟩⟩⟩, ⟨⟨ki_293_1280, ⟨ki_293_1281, ⟨ki_293_1282, ⟨kbadG, ⟨kbadG, ⟨ki_293_1285, ⟨ki_293_1286, ⟨ki_293_1287, ⟨kbadG, ⟨ki_293_1289, ⟨ki_293_1290, ⟨ki_293_1291, ⟨ki_293_1292, ⟨ki_293_1293, ⟨kbadG, ⟨ki_293_1295, trivial⟩⟩⟩⟩⟩⟩⟩⟩⟩⟩⟩⟩⟩⟩⟩⟩, ⟨⟨ki_293_1296, ⟨ki_293_1297, ⟨ki_293_1298, ⟨ki_293_1299, ⟨kbadG, ⟨kbadG, ⟨ki_293_1302, ⟨kbadG, ⟨ki_293_1304, ⟨ki_293_1305, ⟨ki_293_1306, ⟨kbadG, ⟨ki_293_1308, ⟨ki_293_1309, ⟨ki_293_1310, ⟨ki_293_1311, trivial⟩⟩⟩⟩⟩⟩⟩⟩⟩⟩⟩⟩⟩⟩⟩⟩, ⟨⟨ki_293_1312, ⟨kbadG, ⟨ki_293_1314, ⟨ki_293_1315, ⟨ki_293_1316, ⟨ki_293_1317, ⟨kbadG, ⟨kbadG, ⟨ki_293_1320, ⟨kbadG, ⟨ki_293_1322, ⟨ki_293_1323, ⟨kbadG, ⟨kbadG, ⟨ki_293_1326, ⟨kbadG, trivial⟩⟩⟩⟩⟩⟩⟩⟩⟩⟩⟩⟩⟩⟩⟩⟩, ⟨⟨ki_293_1328, ⟨kbadG, ⟨kbadG, ⟨ki_293_1331, ⟨ki_293_1332, ⟨ki_293_1333, ⟨kbadG, ⟨ki_293_1335, ⟨kbadG, ⟨kbadG, ⟨ki_293_1338, ⟨ki_293_1339, ⟨ki_293_1340, ⟨ki_293_1341, ⟨kbadG, ⟨ki_293_1343, trivial⟩⟩⟩⟩⟩⟩⟩⟩⟩⟩⟩⟩⟩⟩⟩⟩, ⟨⟨ki_293_1344, ⟨ki_293_1345, ⟨kbadG, ⟨kbadG, ⟨ki_293_1348, ⟨ki_293_1349, ⟨ki_293_1350, ⟨kbadG, ⟨kbadG, ⟨ki_293_1353, ⟨ki_293_1354, ⟨kbadG, ⟨kbadG, ⟨ki_293_1357, ⟨ki_293_1358, ⟨kbadG, trivial⟩⟩⟩⟩⟩⟩⟩⟩⟩⟩⟩⟩⟩⟩⟩⟩, ⟨⟨kbadG, ⟨ki_293_1361, ⟨ki_293_1362, ⟨kbadG, ⟨kbadG, ⟨ki_293_1365, ⟨ki_293_1366, ⟨ki_293_1367, ⟨ki_293_1368, ⟨ki_293_1369, ⟨kbadG, ⟨ki_293_1371, ⟨ki_293_1372, ⟨ki_293_1373, ⟨ki_293_1374, ⟨ki_293_1375, trivial⟩⟩⟩⟩⟩⟩⟩⟩⟩⟩⟩⟩⟩⟩⟩⟩, ⟨⟨ki_293_1376, ⟨kbadG, ⟨kbadG, ⟨ki_293_1379, ⟨kbadG, ⟨ki_293_1381, ⟨ki_293_1382, ⟨ki_293_1383, ⟨kbadG, ⟨ki_293_1385, ⟨ki_293_1386, ⟨ki_293_1387, ⟨ki_293_1388, ⟨ki_293_1389, ⟨kbadG, ⟨kbadG, trivial⟩⟩⟩⟩⟩⟩⟩⟩⟩⟩⟩⟩⟩⟩⟩⟩, ⟨⟨ki_293_1392, ⟨kbadG, ⟨ki_293_1394, ⟨ki_293_1395, ⟨kbadG, ⟨kbadG, ⟨ki_293_1398, ⟨kbadG, ⟨ki_293_1400, ⟨kbadG, ⟨kbadG, ⟨ki_293_1403, ⟨ki_293_1404, ⟨ki_293_1405, ⟨kbadG, ⟨ki_293_1407, trivial⟩⟩⟩⟩⟩⟩⟩⟩⟩⟩⟩⟩⟩⟩⟩⟩, ⟨⟨kbadG, ⟨kbadG, ⟨ki_293_1410, ⟨ki_293_1411, ⟨ki_293_1412, ⟨ki_293_1413, ⟨kbadG, ⟨ki_293_1415, ⟨ki_293_1416, ⟨kbadG, ⟨kbadG, ⟨ki_293_1419, ⟨ki_293_1420, ⟨ki_293_1421, ⟨kbadG, ⟨kbadG, trivial⟩⟩⟩⟩⟩⟩⟩⟩⟩⟩⟩⟩⟩⟩⟩⟩, ⟨⟨ki_293_1424, ⟨ki_293_1425, ⟨kbadG, ⟨kbadG, ⟨ki_293_1428, ⟨ki_293_1429, ⟨kbadG, ⟨kbadG, ⟨ki_293_1432, ⟨ki_293_1433, ⟨kbadG, ⟨kbadG, ⟨ki_293_1436, ⟨ki_293_1437, ⟨ki_293_1438, ⟨ki_293_1439, trivial⟩⟩⟩⟩⟩⟩⟩⟩⟩⟩⟩⟩⟩⟩⟩⟩, ⟨⟨kbadG, ⟨kbadG, ⟨ki_293_1442, ⟨ki_293_1443, ⟨kbadG, ⟨kbadG, ⟨ki_293_1446, ⟨ki_293_1447, ⟨kbadG, ⟨kbadG, ⟨ki_293_1450, ⟨ki_293_1451, ⟨ki_293_1452, ⟨ki_293_1453, ⟨kbadG, ⟨kbadG, trivial⟩⟩⟩⟩⟩⟩⟩⟩⟩⟩⟩⟩⟩⟩⟩⟩, ⟨⟨ki_293_1456, ⟨ki_293_1457, ⟨kbadG, ⟨kbadG, ⟨ki_293_1460, ⟨kbadG, ⟨kbadG, ⟨ki_293_1463, ⟨ki_293_1464, ⟨ki_293_1465, ⟨ki_293_1466, ⟨kbadG, ⟨kbadG, ⟨ki_293_1469, ⟨ki_293_1470, ⟨kbadG, trivial⟩⟩⟩⟩⟩⟩⟩⟩⟩⟩⟩⟩⟩⟩⟩⟩, ⟨⟨kbadG, ⟨ki_293_1473, ⟨kbadG, ⟨kbadG, ⟨ki_293_1476, ⟨ki_293_1477, ⟨ki_293_1478, ⟨ki_293_1479, ⟨kbadG, ⟨kbadG, ⟨ki_293_1482, ⟨ki_293_1483, ⟨kbadG, ⟨kbadG, ⟨ki_293_1486, ⟨kbadG, trivial⟩⟩⟩⟩⟩⟩⟩⟩⟩⟩⟩⟩⟩⟩⟩⟩, ⟨⟨kbadG, ⟨ki_293_1489, ⟨ki_293_1490, ⟨ki_293_1491, ⟨ki_293_1492, ⟨ki_293_1493, ⟨kbadG, ⟨ki_293_1495, ⟨ki_293_1496, ⟨ki_293_1497, ⟨ki_293_1498, ⟨ki_293_1499, ⟨kbadG, ⟨ki_293_1501, ⟨ki_293_1502, ⟨ki_293_1503, trivial⟩⟩⟩⟩⟩⟩⟩⟩⟩⟩⟩⟩⟩⟩⟩⟩, ⟨⟨ki_293_1504, ⟨ki_293_1505, ⟨kbadG, ⟨kbadG, ⟨ki_293_1508, ⟨kbadG, ⟨ki_293_1510, ⟨ki_293_1511, ⟨ki_293_1512, ⟨kbadG, ⟨ki_293_1514, ⟨ki_293_1515, ⟨ki_293_1516, ⟨ki_293_1517, ⟨ki_293_1518, ⟨kbadG, trivial⟩⟩⟩⟩⟩⟩⟩⟩⟩⟩⟩⟩⟩⟩⟩⟩, ⟨⟨ki_293_1520, ⟨ki_293_1521, ⟨ki_293_1522, ⟨ki_293_1523, ⟨kbadG, ⟨kbadG, ⟨ki_293_1526, ⟨kbadG, ⟨ki_293_1528, ⟨ki_293_1529, ⟨kbadG, ⟨kbadG, ⟨ki_293_1532, ⟨kbadG, ⟨ki_293_1534, ⟨kbadG, trivial⟩⟩⟩⟩⟩⟩⟩⟩⟩⟩⟩⟩⟩⟩⟩⟩, ⟨⟨kbadG, ⟨ki_293_1537, ⟨ki_293_1538, ⟨ki_293_1539, ⟨kbadG, ⟨ki_293_1541, ⟨kbadG, ⟨kbadG, ⟨ki_293_1544, ⟨ki_293_1545, ⟨ki_293_1546, ⟨ki_293_1547, ⟨kbadG, ⟨ki_293_1549, ⟨kbadG, ⟨kbadG, trivial⟩⟩⟩⟩⟩⟩⟩⟩⟩⟩⟩⟩⟩⟩⟩⟩, ⟨⟨ki_293_1552, ⟨ki_293_1553, ⟨kbadG, ⟨kbadG, ⟨ki_293_1556, ⟨ki_293_1557, ⟨ki_293_1558, ⟨kbadG, ⟨kbadG, ⟨ki_293_1561, ⟨ki_293_1562, ⟨ki_293_1563, ⟨kbadG, ⟨kbadG, ⟨ki_293_1566, ⟨ki_293_1567, trivial⟩⟩⟩⟩⟩⟩⟩⟩⟩⟩⟩⟩⟩⟩⟩⟩, ⟨⟨ki_293_1568, ⟨kbadG, ⟨ki_293_1570, ⟨ki_293_1571, ⟨ki_293_1572, ⟨ki_293_1573, ⟨ki_293_1574, ⟨kbadG, ⟨kbadG, ⟨ki_293_1577, ⟨kbadG, ⟨ki_293_1579, ⟨ki_293_1580, ⟨ki_293_1581, ⟨kbadG, ⟨ki_293_1583, trivial⟩⟩⟩⟩⟩⟩⟩⟩⟩⟩⟩⟩⟩⟩⟩⟩, ⟨⟨ki_293_1584, ⟨ki_293_1585, ⟨ki_293_1586, ⟨kbadG, ⟨kbadG, ⟨ki_293_1589, ⟨kbadG, ⟨ki_293_1591, ⟨ki_293_1592, ⟨kbadG, ⟨kbadG, ⟨ki_293_1595, ⟨kbadG, ⟨ki_293_1597, ⟨kbadG, ⟨kbadG, trivial⟩⟩⟩⟩⟩⟩⟩⟩⟩⟩⟩⟩⟩⟩⟩⟩, ⟨⟨ki_293_1600, ⟨ki_293_1601, ⟨ki_293_1602, ⟨kbadG, ⟨ki_293_1604, ⟨kbadG, ⟨kbadG, ⟨ki_293_1607, ⟨ki_293_1608, ⟨ki_293_1609, ⟨ki_293_1610, ⟨kbadG, ⟨ki_293_1612, ⟨ki_293_1613, ⟨ki_293_1614, ⟨kbadG, trivial⟩⟩⟩⟩⟩⟩⟩⟩⟩⟩⟩⟩⟩⟩⟩⟩, ⟨⟨kbadG, ⟨ki_293_1617, ⟨ki_293_1618, ⟨ki_293_1619, ⟨kbadG, ⟨kbadG, ⟨ki_293_1622, ⟨ki_293_1623, ⟨ki_293_1624, ⟨kbadG, ⟨ki_293_1626, ⟨ki_293_1627, ⟨ki_293_1628, ⟨ki_293_1629, ⟨ki_293_1630, ⟨kbadG, trivial⟩⟩⟩⟩⟩⟩⟩⟩⟩⟩⟩⟩⟩⟩⟩⟩, ⟨⟨ki_293_1632, ⟨ki_293_1633, ⟨ki_293_1634, ⟨ki_293_1635, ⟨ki_293_1636, ⟨kbadG, ⟨kbadG, ⟨ki_293_1639, ⟨kbadG, ⟨ki_293_1641, ⟨ki_293_1642, ⟨ki_293_1643, ⟨kbadG, ⟨ki_293_1645, ⟨ki_293_1646, ⟨ki_293_1647, trivial⟩⟩⟩⟩⟩⟩⟩⟩⟩⟩⟩⟩⟩⟩⟩⟩, ⟨⟨ki_293_1648, ⟨ki_293_1649, ⟨kbadG, ⟨ki_293_1651, ⟨ki_293_1652, ⟨ki_293_1653, ⟨ki_293_1654, ⟨kbadG, ⟨kbadG, ⟨ki_293_1657, ⟨kbadG, ⟨ki_293_1659, ⟨ki_293_1660, ⟨kbadG, ⟨kbadG, ⟨ki_293_1663, trivial⟩⟩⟩⟩⟩⟩⟩⟩⟩⟩⟩⟩⟩⟩⟩⟩, ⟨⟨kbadG, ⟨ki_293_1665, ⟨kbadG, ⟨kbadG, ⟨ki_293_1668, ⟨ki_293_1669, ⟨ki_293_1670, ⟨kbadG, ⟨ki_293_1672, ⟨kbadG, ⟨kbadG, ⟨ki_293_1675, ⟨ki_293_1676, ⟨ki_293_1677, ⟨ki_293_1678, ⟨kbadG, trivial⟩⟩⟩⟩⟩⟩⟩⟩⟩⟩⟩⟩⟩⟩⟩⟩, ⟨⟨ki_293_1680, ⟨ki_293_1681, ⟨ki_293_1682, ⟨kbadG, ⟨kbadG, ⟨ki_293_1685, ⟨ki_293_1686, ⟨ki_293_1687, ⟨kbadG, ⟨kbadG, ⟨ki_293_1690, ⟨ki_293_1691, ⟨ki_293_1692, ⟨kbadG, ⟨ki_293_1694, ⟨ki_293_1695, trivial⟩⟩⟩⟩⟩⟩⟩⟩⟩⟩⟩⟩⟩⟩⟩⟩, ⟨⟨ki_293_1696, ⟨ki_293_1697, ⟨ki_293_1698, ⟨kbadG, ⟨ki_293_1700, ⟨ki_293_1701, ⟨ki_293_1702, ⟨ki_293_1703, ⟨ki_293_1704, ⟨kbadG, ⟨ki_293_1706, ⟨ki_293_1707, ⟨ki_293_1708, ⟨ki_293_1709, ⟨ki_293_1710, ⟨kbadG, trivial⟩⟩⟩⟩⟩⟩⟩⟩⟩⟩⟩⟩⟩⟩⟩⟩, ⟨⟨ki_293_1712, ⟨ki_293_1713, ⟨ki_293_1714, ⟨ki_293_1715, ⟨ki_293_1716, ⟨kbadG, ⟨kbadG, ⟨ki_293_1719, ⟨kbadG, ⟨ki_293_1721, ⟨ki_293_1722, ⟨ki_293_1723, ⟨kbadG, ⟨ki_293_1725, ⟨ki_293_1726, ⟨ki_293_1727, trivial⟩⟩⟩⟩⟩⟩⟩⟩⟩⟩⟩⟩⟩⟩⟩⟩, ⟨⟨ki_293_1728, ⟨ki_293_1729, ⟨kbadG, ⟨ki_293_1731, ⟨ki_293_1732, ⟨ki_293_1733, ⟨ki_293_1734, ⟨ki_293_1735, ⟨kbadG, ⟨ki_293_1737, ⟨ki_293_1738, ⟨ki_293_1739, ⟨ki_293_1740, ⟨ki_293_1741, ⟨kbadG, ⟨ki_293_1743, trivial⟩⟩⟩⟩⟩⟩⟩⟩⟩⟩⟩⟩⟩⟩⟩⟩, ⟨⟨ki_293_1744, ⟨ki_293_1745, ⟨ki_293_1746, ⟨kbadG, ⟨kbadG, ⟨ki_293_1749, ⟨kbadG, ⟨ki_293_1751, ⟨ki_293_1752, ⟨kbadG, ⟨kbadG, ⟨ki_293_1755, ⟨kbadG, ⟨ki_293_1757, ⟨kbadG, ⟨kbadG, trivial⟩⟩⟩⟩⟩⟩⟩⟩⟩⟩⟩⟩⟩⟩⟩⟩, ⟨⟨ki_293_1760, ⟨ki_293_1761, ⟨ki_293_1762, ⟨kbadG, ⟨ki_293_1764, ⟨kbadG, ⟨kbadG, ⟨ki_293_1767, ⟨ki_293_1768, ⟨ki_293_1769, ⟨ki_293_1770, ⟨kbadG, ⟨ki_293_1772, ⟨ki_293_1773, ⟨ki_293_1774, ⟨kbadG, trivial⟩⟩⟩⟩⟩⟩⟩⟩⟩⟩⟩⟩⟩⟩⟩⟩, ⟨⟨kbadG, ⟨ki_293_1777, ⟨ki_293_1778, ⟨ki_293_1779, ⟨kbadG, ⟨kbadG, ⟨ki_293_1782, ⟨ki_293_1783, ⟨ki_293_1784, ⟨kbadG, ⟨ki_293_1786, ⟨ki_293_1787, ⟨ki_293_1788, ⟨ki_293_1789, ⟨ki_293_1790, ⟨kbadG, trivial⟩⟩⟩⟩⟩⟩⟩⟩⟩⟩⟩⟩⟩⟩⟩⟩, ⟨⟨ki_293_1792, ⟨ki_293_1793, ⟨ki_293_1794, ⟨ki_293_1795, ⟨ki_293_1796, ⟨kbadG, ⟨ki_293_1798, ⟨ki_293_1799, ⟨ki_293_1800, ⟨ki_293_1801, ⟨ki_293_1802, ⟨kbadG, ⟨kbadG, ⟨ki_293_1805, ⟨kbadG, ⟨ki_293_1807, trivial⟩⟩⟩⟩⟩⟩⟩⟩⟩⟩⟩⟩⟩⟩⟩⟩, ⟨⟨ki_293_1808, ⟨ki_293_1809, ⟨kbadG, ⟨ki_293_1811, ⟨ki_293_1812, ⟨ki_293_1813, ⟨ki_293_1814, ⟨ki_293_1815, ⟨kbadG, ⟨ki_293_1817, ⟨ki_293_1818, ⟨ki_293_1819, ⟨ki_293_1820, ⟨ki_293_1821, ⟨kbadG, ⟨ki_293_1823, trivial⟩⟩⟩⟩⟩⟩⟩⟩⟩⟩⟩⟩⟩⟩⟩⟩, ⟨⟨ki_293_1824, ⟨ki_293_1825, ⟨ki_293_1826, ⟨kbadG, ⟨kbadG, ⟨ki_293_1829, ⟨kbadG, ⟨ki_293_1831, ⟨ki_293_1832, ⟨kbadG, ⟨kbadG, ⟨ki_293_1835, ⟨kbadG, ⟨ki_293_1837, ⟨kbadG, ⟨kbadG, trivial⟩⟩⟩⟩⟩⟩⟩⟩⟩⟩⟩⟩⟩⟩⟩⟩, ⟨⟨ki_293_1840, ⟨ki_293_1841, ⟨ki_293_1842, ⟨kbadG, ⟨ki_293_1844, ⟨kbadG, ⟨kbadG, ⟨ki_293_1847, ⟨ki_293_1848, ⟨ki_293_1849, ⟨ki_293_1850, ⟨kbadG, ⟨ki_293_1852, ⟨ki_293_1853, ⟨ki_293_1854, ⟨kbadG, trivial⟩⟩⟩⟩⟩⟩⟩⟩⟩⟩⟩⟩⟩⟩⟩⟩, ⟨⟨kbadG, ⟨ki_293_1857, ⟨ki_293_1858, ⟨ki_293_1859, ⟨kbadG, ⟨kbadG, ⟨ki_293_1862, ⟨ki_293_1863, ⟨ki_293_1864, ⟨kbadG, ⟨ki_293_1866, ⟨ki_293_1867, ⟨ki_293_1868, ⟨ki_293_1869, ⟨ki_293_1870, ⟨kbadG, trivial⟩⟩⟩⟩⟩⟩⟩⟩⟩⟩⟩⟩⟩⟩⟩⟩, ⟨⟨ki_293_1872, ⟨ki_293_1873, ⟨ki_293_1874, ⟨ki_293_1875, ⟨ki_293_1876, ⟨kbadG, ⟨kbadG, ⟨ki_293_1879, ⟨kbadG, ⟨ki_293_1881, ⟨ki_293_1882, ⟨ki_293_1883, ⟨kbadG, ⟨ki_293_1885, ⟨ki_293_1886, ⟨ki_293_1887, trivial⟩⟩⟩⟩⟩⟩⟩⟩⟩⟩⟩⟩⟩⟩⟩⟩, ⟨⟨ki_293_1888, ⟨ki_293_1889, ⟨kbadG, ⟨ki_293_1891, ⟨ki_293_1892, ⟨ki_293_1893, ⟨ki_293_1894, ⟨kbadG, ⟨kbadG, ⟨ki_293_1897, ⟨kbadG, ⟨ki_293_1899, ⟨ki_293_1900, ⟨kbadG, ⟨kbadG, ⟨ki_293_1903, trivial⟩⟩⟩⟩⟩⟩⟩⟩⟩⟩⟩⟩⟩⟩⟩⟩, ⟨⟨kbadG, ⟨ki_293_1905, ⟨kbadG, ⟨kbadG, ⟨ki_293_1908, ⟨ki_293_1909, ⟨ki_293_1910, ⟨kbadG, ⟨ki_293_1912, ⟨kbadG, ⟨kbadG, ⟨ki_293_1915, ⟨ki_293_1916, ⟨ki_293_1917, ⟨ki_293_1918, ⟨kbadG, trivial⟩⟩⟩⟩⟩⟩⟩⟩⟩⟩⟩⟩⟩⟩⟩⟩, ⟨⟨ki_293_1920, ⟨ki_293_1921, ⟨ki_293_1922, ⟨kbadG, ⟨kbadG, ⟨ki_293_1925, ⟨ki_293_1926, ⟨ki_293_1927, ⟨kbadG, ⟨kbadG, ⟨ki_293_1930, ⟨ki_293_1931, ⟨ki_293_1932, ⟨kbadG, ⟨ki_293_1934, ⟨ki_293_1935, trivial⟩⟩⟩⟩⟩⟩⟩⟩⟩⟩⟩⟩⟩⟩⟩⟩, ⟨⟨ki_293_1936, ⟨ki_293_1937, ⟨ki_293_1938, ⟨kbadG, ⟨ki_293_1940, ⟨ki_293_1941, ⟨ki_293_1942, ⟨ki_293_1943, ⟨ki_293_1944, ⟨kbadG, ⟨ki_293_1946, ⟨ki_293_1947, ⟨ki_293_1948, ⟨ki_293_1949, ⟨ki_293_1950, ⟨kbadG, trivial⟩⟩⟩⟩⟩⟩⟩⟩⟩⟩⟩⟩⟩⟩⟩⟩, ⟨⟨kbadG, ⟨ki_293_1953, ⟨kbadG, ⟨ki_293_1955, ⟨ki_293_1956, ⟨ki_293_1957, ⟨kbadG, ⟨ki_293_1959, ⟨ki_293_1960, ⟨ki_293_1961, ⟨ki_293_1962, ⟨ki_293_1963, ⟨kbadG, ⟨ki_293_1965, ⟨ki_293_1966, ⟨ki_293_1967, trivial⟩⟩⟩⟩⟩⟩⟩⟩⟩⟩⟩⟩⟩⟩⟩⟩, ⟨⟨ki_293_1968, ⟨ki_293_1969, ⟨kbadG, ⟨ki_293_1971, ⟨ki_293_1972, ⟨ki_293_1973, ⟨ki_293_1974, ⟨kbadG, ⟨kbadG, ⟨ki_293_1977, ⟨kbadG, ⟨ki_293_1979, ⟨ki_293_1980, ⟨kbadG, ⟨kbadG, ⟨ki_293_1983, trivial⟩⟩⟩⟩⟩⟩⟩⟩⟩⟩⟩⟩⟩⟩⟩⟩, ⟨⟨kbadG, ⟨ki_293_1985, ⟨kbadG, ⟨kbadG, ⟨ki_293_1988, ⟨ki_293_1989, ⟨ki_293_1990, ⟨kbadG, ⟨ki_293_1992, ⟨kbadG, ⟨kbadG, ⟨ki_293_1995, ⟨ki_293_1996, ⟨ki_293_1997, ⟨ki_293_1998, ⟨kbadG, trivial⟩⟩⟩⟩⟩⟩⟩⟩⟩⟩⟩⟩⟩⟩⟩⟩, ⟨⟨ki_293_2000, ⟨ki_293_2001, ⟨ki_293_2002, ⟨kbadG, ⟨kbadG, ⟨ki_293_2005, ⟨ki_293_2006, ⟨ki_293_2007, ⟨kbadG, ⟨kbadG, ⟨ki_293_2010, ⟨ki_293_2011, ⟨kbadG, ⟨kbadG, ⟨ki_293_2014, ⟨ki_293_2015, trivial⟩⟩⟩⟩⟩⟩⟩⟩⟩⟩⟩⟩⟩⟩⟩⟩, ⟨⟨kbadG, ⟨kbadG, ⟨ki_293_2018, ⟨kbadG, ⟨kbadG, ⟨ki_293_2021, ⟨ki_293_2022, ⟨ki_293_2023, ⟨ki_293_2024, ⟨kbadG, ⟨kbadG, ⟨ki_293_2027, ⟨ki_293_2028, ⟨kbadG, ⟨kbadG, ⟨ki_293_2031, trivial⟩⟩⟩⟩⟩⟩⟩⟩⟩⟩⟩⟩⟩⟩⟩⟩, ⟨⟨kbadG, ⟨kbadG, ⟨ki_293_2034, ⟨ki_293_2035, ⟨ki_293_2036, ⟨ki_293_2037, ⟨ki_293_2038, ⟨kbadG, ⟨ki_293_2040, ⟨ki_293_2041, ⟨ki_293_2042, ⟨ki_293_2043, ⟨ki_293_2044, ⟨kbadG, ⟨kbadG, ⟨ki_293_2047, trivial⟩⟩⟩⟩⟩⟩⟩⟩⟩⟩⟩⟩⟩⟩⟩⟩, ⟨⟨kbadG, ⟨ki_293_2049, ⟨ki_293_2050, ⟨ki_293_2051, ⟨kbadG, ⟨ki_293_2053, ⟨ki_293_2054, ⟨ki_293_2055, ⟨ki_293_2056, ⟨kbadG, ⟨kbadG, ⟨ki_293_2059, ⟨kbadG, ⟨ki_293_2061, ⟨ki_293_2062, ⟨kbadG, trivial⟩⟩⟩⟩⟩⟩⟩⟩⟩⟩⟩⟩⟩⟩⟩⟩, ⟨⟨kbadG, ⟨ki_293_2065, ⟨kbadG, ⟨ki_293_2067, ⟨kbadG, ⟨kbadG, ⟨ki_293_2070, ⟨ki_293_2071, ⟨ki_293_2072, ⟨kbadG, ⟨ki_293_2074, ⟨kbadG, ⟨kbadG, ⟨ki_293_2077, ⟨ki_293_2078, ⟨ki_293_2079, trivial⟩⟩⟩⟩⟩⟩⟩⟩⟩⟩⟩⟩⟩⟩⟩⟩, ⟨⟨ki_293_2080, ⟨kbadG, ⟨ki_293_2082, ⟨ki_293_2083, ⟨ki_293_2084, ⟨kbadG, ⟨kbadG, ⟨ki_293_2087, ⟨ki_293_2088, ⟨ki_293_2089, ⟨kbadG, ⟨kbadG, ⟨ki_293_2092, ⟨ki_293_2093, ⟨ki_293_2094, ⟨kbadG, trivial⟩⟩⟩⟩⟩⟩⟩⟩⟩⟩⟩⟩⟩⟩⟩⟩, ⟨⟨ki_293_2096, ⟨ki_293_2097, ⟨ki_293_2098, ⟨ki_293_2099, ⟨ki_293_2100, ⟨kbadG, ⟨kbadG, ⟨ki_293_2103, ⟨kbadG, ⟨ki_293_2105, ⟨ki_293_2106, ⟨ki_293_2107, ⟨kbadG, ⟨ki_293_2109, ⟨ki_293_2110, ⟨ki_293_2111, trivial⟩⟩⟩⟩⟩⟩⟩⟩⟩⟩⟩⟩⟩⟩⟩⟩, ⟨⟨ki_293_2112, ⟨kbadG, ⟨kbadG, ⟨ki_293_2115, ⟨kbadG, ⟨ki_293_2117, ⟨ki_293_2118, ⟨kbadG, ⟨kbadG, ⟨ki_293_2121, ⟨kbadG, ⟨ki_293_2123, ⟨kbadG, ⟨kbadG, ⟨ki_293_2126, ⟨ki_293_2127, trivial⟩⟩⟩⟩⟩⟩⟩⟩⟩⟩⟩⟩⟩⟩⟩⟩, ⟨⟨ki_293_2128, ⟨kbadG, ⟨ki_293_2130, ⟨kbadG, ⟨kbadG, ⟨ki_293_2133, ⟨ki_293_2134, ⟨ki_293_2135, ⟨ki_293_2136, ⟨kbadG, ⟨ki_293_2138, ⟨ki_293_2139, ⟨kbadG, ⟨kbadG, ⟨ki_293_2142, ⟨ki_293_2143, trivial⟩⟩⟩⟩⟩⟩⟩⟩⟩⟩⟩⟩⟩⟩⟩⟩, ⟨⟨ki_293_2144, ⟨kbadG, ⟨kbadG, ⟨ki_293_2147, ⟨ki_293_2148, ⟨ki_293_2149, ⟨kbadG, ⟨kbadG, ⟨ki_293_2152, ⟨kbadG, ⟨ki_293_2154, ⟨ki_293_2155, ⟨kbadG, ⟨kbadG, ⟨ki_293_2158, ⟨kbadG, trivial⟩⟩⟩⟩⟩⟩⟩⟩⟩⟩⟩⟩⟩⟩⟩⟩, ⟨⟨ki_293_2160, ⟨ki_293_2161, ⟨kbadG, ⟨kbadG, ⟨ki_293_2164, ⟨kbadG, ⟨ki_293_2166, ⟨kbadG, ⟨kbadG, ⟨ki_293_2169, ⟨ki_293_2170, ⟨ki_293_2171, ⟨kbadG, ⟨ki_293_2173, ⟨kbadG, ⟨kbadG, trivial⟩⟩⟩⟩⟩⟩⟩⟩⟩⟩⟩⟩⟩⟩⟩⟩, ⟨⟨ki_293_2176, ⟨ki_293_2177, ⟨ki_293_2178, ⟨ki_293_2179, ⟨kbadG, ⟨ki_293_2181, ⟨ki_293_2182, ⟨ki_293_2183, ⟨kbadG, ⟨kbadG, ⟨ki_293_2186, ⟨ki_293_2187, ⟨ki_293_2188, ⟨kbadG, ⟨kbadG, ⟨ki_293_2191, trivial⟩⟩⟩⟩⟩⟩⟩⟩⟩⟩⟩⟩⟩⟩⟩⟩, ⟨⟨ki_293_2192, ⟨kbadG, ⟨ki_293_2194, ⟨kbadG, ⟨kbadG, ⟨ki_293_2197, ⟨kbadG, ⟨ki_293_2199, ⟨ki_293_2200, ⟨kbadG, ⟨kbadG, ⟨ki_293_2203, ⟨kbadG, ⟨ki_293_2205, ⟨ki_293_2206, ⟨kbadG, trivial⟩⟩⟩⟩⟩⟩⟩⟩⟩⟩⟩⟩⟩⟩⟩⟩, ⟨⟨kbadG, ⟨ki_293_2209, ⟨kbadG, ⟨ki_293_2211, ⟨kbadG, ⟨kbadG, ⟨ki_293_2214, ⟨ki_293_2215, ⟨ki_293_2216, ⟨kbadG, ⟨ki_293_2218, ⟨kbadG, ⟨kbadG, ⟨ki_293_2221, ⟨kbadG, ⟨ki_293_2223, trivial⟩⟩⟩⟩⟩⟩⟩⟩⟩⟩⟩⟩⟩⟩⟩⟩, ⟨⟨ki_293_2224, ⟨ki_293_2225, ⟨kbadG, ⟨ki_293_2227, ⟨ki_293_2228, ⟨ki_293_2229, ⟨kbadG, ⟨kbadG, ⟨ki_293_2232, ⟨kbadG, ⟨ki_293_2234, ⟨ki_293_2235, ⟨ki_293_2236, ⟨kbadG, ⟨ki_293_2238, ⟨ki_293_2239, trivial⟩⟩⟩⟩⟩⟩⟩⟩⟩⟩⟩⟩⟩⟩⟩⟩, ⟨⟨ki_293_2240, ⟨ki_293_2241, ⟨kbadG, ⟨kbadG, ⟨ki_293_2244, ⟨kbadG, ⟨ki_293_2246, ⟨kbadG, ⟨ki_293_2248, ⟨ki_293_2249, ⟨kbadG, ⟨kbadG, ⟨ki_293_2252, ⟨ki_293_2253, ⟨ki_293_2254, ⟨kbadG, trivial⟩⟩⟩⟩⟩⟩⟩⟩⟩⟩⟩⟩⟩⟩⟩⟩, ⟨⟨kbadG, ⟨ki_293_2257, ⟨ki_293_2258, ⟨ki_293_2259, ⟨kbadG, ⟨kbadG, ⟨ki_293_2262, ⟨kbadG, ⟨ki_293_2264, ⟨ki_293_2265, ⟨kbadG, ⟨kbadG, ⟨ki_293_2268, ⟨kbadG, ⟨ki_293_2270, ⟨ki_293_2271, trivial⟩⟩⟩⟩⟩⟩⟩⟩⟩⟩⟩⟩⟩⟩⟩⟩, ⟨⟨kbadG, ⟨kbadG, ⟨ki_293_2274, ⟨kbadG, ⟨ki_293_2276, ⟨kbadG, ⟨kbadG, ⟨ki_293_2279, ⟨ki_293_2280, ⟨ki_293_2281, ⟨kbadG, ⟨ki_293_2283, ⟨kbadG, ⟨kbadG, ⟨ki_293_2286, ⟨ki_293_2287, trivial⟩⟩⟩⟩⟩⟩⟩⟩⟩⟩⟩⟩⟩⟩⟩⟩, ⟨⟨ki_293_2288, ⟨ki_293_2289, ⟨kbadG, ⟨ki_293_2291, ⟨ki_293_2292, ⟨ki_293_2293, ⟨kbadG, ⟨kbadG, ⟨ki_293_2296, ⟨ki_293_2297, ⟨ki_293_2298, ⟨kbadG, ⟨kbadG, ⟨ki_293_2301, ⟨ki_293_2302, ⟨kbadG, trivial⟩⟩⟩⟩⟩⟩⟩⟩⟩⟩⟩⟩⟩⟩⟩⟩, ⟨⟨ki_293_2304, ⟨kbadG, ⟨kbadG, ⟨ki_293_2307, ⟨kbadG, ⟨ki_293_2309, ⟨ki_293_2310, ⟨kbadG, ⟨kbadG, ⟨ki_293_2313, ⟨kbadG, ⟨ki_293_2315, ⟨ki_293_2316, ⟨kbadG, ⟨kbadG, ⟨ki_293_2319, trivial⟩⟩⟩⟩⟩⟩⟩⟩⟩⟩⟩⟩⟩⟩⟩⟩, ⟨⟨kbadG, ⟨ki_293_2321, ⟨kbadG, ⟨kbadG, ⟨ki_293_2324, ⟨ki_293_2325, ⟨ki_293_2326, ⟨kbadG, ⟨ki_293_2328, ⟨kbadG, ⟨kbadG, ⟨ki_293_2331, ⟨kbadG, ⟨ki_293_2333, ⟨ki_293_2334, ⟨ki_293_2335, trivial⟩⟩⟩⟩⟩⟩⟩⟩⟩⟩⟩⟩⟩⟩⟩⟩, ⟨⟨kbadG, ⟨ki_293_2337, ⟨ki_293_2338, ⟨kbadG, ⟨kbadG, ⟨ki_293_2341, ⟨kbadG, ⟨ki_293_2343, ⟨ki_293_2344, ⟨ki_293_2345, ⟨kbadG, ⟨ki_293_2347, ⟨ki_293_2348, ⟨ki_293_2349, ⟨ki_293_2350, ⟨kbadG, trivial⟩⟩⟩⟩⟩⟩⟩⟩⟩⟩⟩⟩⟩⟩⟩⟩, ⟨⟨kbadG, ⟨ki_293_2353, ⟨kbadG, ⟨ki_293_2355, ⟨kbadG, ⟨ki_293_2357, ⟨ki_293_2358, ⟨kbadG, ⟨kbadG, ⟨ki_293_2361, ⟨ki_293_2362, ⟨ki_293_2363, ⟨kbadG, ⟨kbadG, ⟨ki_293_2366, ⟨ki_293_2367, trivial⟩⟩⟩⟩⟩⟩⟩⟩⟩⟩⟩⟩⟩⟩⟩⟩, ⟨⟨kbadG, ⟨kbadG, ⟨ki_293_2370, ⟨ki_293_2371, ⟨kbadG, ⟨kbadG, ⟨ki_293_2374, ⟨kbadG, ⟨kbadG, ⟨ki_293_2377, ⟨ki_293_2378, ⟨ki_293_2379, ⟨ki_293_2380, ⟨ki_293_2381, ⟨kbadG, ⟨ki_293_2383, trivial⟩⟩⟩⟩⟩⟩⟩⟩⟩⟩⟩⟩⟩⟩⟩⟩, ⟨⟨ki_293_2384, ⟨ki_293_2385, ⟨ki_293_2386, ⟨ki_293_2387, ⟨kbadG, ⟨kbadG, ⟨ki_293_2390, ⟨kbadG, ⟨ki_293_2392, ⟨ki_293_2393, ⟨ki_293_2394, ⟨kbadG, ⟨ki_293_2396, ⟨ki_293_2397, ⟨ki_293_2398, ⟨ki_293_2399, trivial⟩⟩⟩⟩⟩⟩⟩⟩⟩⟩⟩⟩⟩⟩⟩⟩, ⟨⟨kbadG, ⟨kbadG, ⟨ki_293_2402, ⟨kbadG, ⟨ki_293_2404, ⟨ki_293_2405, ⟨kbadG, ⟨kbadG, ⟨ki_293_2408, ⟨kbadG, ⟨ki_293_2410, ⟨kbadG, ⟨kbadG, ⟨ki_293_2413, ⟨ki_293_2414, ⟨ki_293_2415, trivial⟩⟩⟩⟩⟩⟩⟩⟩⟩⟩⟩⟩⟩⟩⟩⟩, ⟨⟨kbadG, ⟨ki_293_2417, ⟨kbadG, ⟨kbadG, ⟨ki_293_2420, ⟨ki_293_2421, ⟨ki_293_2422, ⟨ki_293_2423, ⟨kbadG, ⟨ki_293_2425, ⟨ki_293_2426, ⟨ki_293_2427, ⟨kbadG, ⟨kbadG, ⟨ki_293_2430, ⟨ki_293_2431, trivial⟩⟩⟩⟩⟩⟩⟩⟩⟩⟩⟩⟩⟩⟩⟩⟩, ⟨⟨ki_293_2432, ⟨kbadG, ⟨kbadG, ⟨ki_293_2435, ⟨ki_293_2436, ⟨ki_293_2437, ⟨kbadG, ⟨ki_293_2439, ⟨ki_293_2440, ⟨ki_293_2441, ⟨ki_293_2442, ⟨ki_293_2443, ⟨kbadG, ⟨kbadG, ⟨ki_293_2446, ⟨kbadG, trivial⟩⟩⟩⟩⟩⟩⟩⟩⟩⟩⟩⟩⟩⟩⟩⟩, ⟨⟨ki_293_2448, ⟨ki_293_2449, ⟨ki_293_2450, ⟨kbadG, ⟨ki_293_2452, ⟨ki_293_2453, ⟨ki_293_2454, ⟨ki_293_2455, ⟨kbadG, ⟨kbadG, ⟨ki_293_2458, ⟨kbadG, ⟨ki_293_2460, ⟨ki_293_2461, ⟨kbadG, ⟨kbadG, trivial⟩⟩⟩⟩⟩⟩⟩⟩⟩⟩⟩⟩⟩⟩⟩⟩, ⟨⟨ki_293_2464, ⟨kbadG, ⟨ki_293_2466, ⟨kbadG, ⟨kbadG, ⟨ki_293_2469, ⟨ki_293_2470, ⟨ki_293_2471, ⟨kbadG, ⟨ki_293_2473, ⟨kbadG, ⟨kbadG, ⟨ki_293_2476, ⟨ki_293_2477, ⟨ki_293_2478, ⟨ki_293_2479, trivial⟩⟩⟩⟩⟩⟩⟩⟩⟩⟩⟩⟩⟩⟩⟩⟩, ⟨⟨kbadG, ⟨ki_293_2481, ⟨ki_293_2482, ⟨ki_293_2483, ⟨kbadG, ⟨kbadG, ⟨ki_293_2486, ⟨ki_293_2487, ⟨ki_293_2488, ⟨kbadG, ⟨kbadG, ⟨ki_293_2491, ⟨ki_293_2492, ⟨ki_293_2493, ⟨kbadG, ⟨ki_293_2495, trivial⟩⟩⟩⟩⟩⟩⟩⟩⟩⟩⟩⟩⟩⟩⟩⟩, ⟨⟨ki_293_2496, ⟨ki_293_2497, ⟨ki_293_2498, ⟨ki_293_2499, ⟨kbadG, ⟨kbadG, ⟨ki_293_2502, ⟨kbadG, ⟨ki_293_2504, ⟨ki_293_2505, ⟨ki_293_2506, ⟨kbadG, ⟨ki_293_2508, ⟨ki_293_2509, ⟨ki_293_2510, ⟨ki_293_2511, trivial⟩⟩⟩⟩⟩⟩⟩⟩⟩⟩⟩⟩⟩⟩⟩⟩, ⟨⟨kbadG, ⟨kbadG, ⟨ki_293_2514, ⟨kbadG, ⟨ki_293_2516, ⟨ki_293_2517, ⟨kbadG, ⟨kbadG, ⟨ki_293_2520, ⟨kbadG, ⟨ki_293_2522, ⟨kbadG, ⟨kbadG, ⟨ki_293_2525, ⟨ki_293_2526, ⟨ki_293_2527, trivial⟩⟩⟩⟩⟩⟩⟩⟩⟩⟩⟩⟩⟩⟩⟩⟩, ⟨⟨kbadG, ⟨ki_293_2529, ⟨kbadG, ⟨kbadG, ⟨ki_293_2532, ⟨ki_293_2533, ⟨ki_293_2534, ⟨ki_293_2535, ⟨kbadG, ⟨ki_293_2537, ⟨ki_293_2538, ⟨ki_293_2539, ⟨kbadG, ⟨kbadG, ⟨ki_293_2542, ⟨ki_293_2543, trivial⟩⟩⟩⟩⟩⟩⟩⟩⟩⟩⟩⟩⟩⟩⟩⟩, ⟨⟨ki_293_2544, ⟨kbadG, ⟨kbadG, ⟨ki_293_2547, ⟨ki_293_2548, ⟨ki_293_2549, ⟨kbadG, ⟨ki_293_2551, ⟨ki_293_2552, ⟨ki_293_2553, ⟨ki_293_2554, ⟨ki_293_2555, ⟨ki_293_2556, ⟨kbadG, ⟨kbadG, ⟨ki_293_2559, trivial⟩⟩⟩⟩⟩⟩⟩⟩⟩⟩⟩⟩⟩⟩⟩⟩, ⟨⟨kbadG, ⟨ki_293_2561, ⟨ki_293_2562, ⟨ki_293_2563, ⟨kbadG, ⟨ki_293_2565, ⟨ki_293_2566, ⟨ki_293_2567, ⟨ki_293_2568, ⟨ki_293_2569, ⟨kbadG, ⟨kbadG, ⟨ki_293_2572, ⟨kbadG, ⟨ki_293_2574, ⟨ki_293_2575, trivial⟩⟩⟩⟩⟩⟩⟩⟩⟩⟩⟩⟩⟩⟩⟩⟩, ⟨⟨kbadG, ⟨kbadG, ⟨ki_293_2578, ⟨kbadG, ⟨ki_293_2580, ⟨kbadG, ⟨kbadG, ⟨ki_293_2583, ⟨ki_293_2584, ⟨ki_293_2585, ⟨kbadG, ⟨ki_293_2587, ⟨kbadG, ⟨kbadG, ⟨ki_293_2590, ⟨ki_293_2591, trivial⟩⟩⟩⟩⟩⟩⟩⟩⟩⟩⟩⟩⟩⟩⟩⟩, ⟨⟨ki_293_2592, ⟨ki_293_2593, ⟨kbadG, ⟨ki_293_2595, ⟨ki_293_2596, ⟨ki_293_2597, ⟨kbadG, ⟨kbadG, ⟨ki_293_2600, ⟨ki_293_2601, ⟨ki_293_2602, ⟨kbadG, ⟨kbadG, ⟨ki_293_2605, ⟨ki_293_2606, ⟨ki_293_2607, trivial⟩⟩⟩⟩⟩⟩⟩⟩⟩⟩⟩⟩⟩⟩⟩⟩, ⟨⟨kbadG, ⟨kbadG, ⟨ki_293_2610, ⟨kbadG, ⟨ki_293_2612, ⟨ki_293_2613, ⟨kbadG, ⟨kbadG, ⟨ki_293_2616, ⟨kbadG, ⟨ki_293_2618, ⟨ki_293_2619, ⟨kbadG, ⟨kbadG, ⟨ki_293_2622, ⟨kbadG, trivial⟩⟩⟩⟩⟩⟩⟩⟩⟩⟩⟩⟩⟩⟩⟩⟩, ⟨⟨ki_293_2624, ⟨kbadG, ⟨kbadG, ⟨ki_293_2627, ⟨ki_293_2628, ⟨ki_293_2629, ⟨kbadG, ⟨ki_293_2631, ⟨kbadG, ⟨kbadG, ⟨ki_293_2634, ⟨ki_293_2635, ⟨ki_293_2636, ⟨ki_293_2637, ⟨kbadG, ⟨ki_293_2639, trivial⟩⟩⟩⟩⟩⟩⟩⟩⟩⟩⟩⟩⟩⟩⟩⟩, ⟨⟨ki_293_2640, ⟨ki_293_2641, ⟨kbadG, ⟨kbadG, ⟨ki_293_2644, ⟨ki_293_2645, ⟨ki_293_2646, ⟨kbadG, ⟨kbadG, ⟨ki_293_2649, ⟨ki_293_2650, ⟨ki_293_2651, ⟨kbadG, ⟨kbadG, ⟨ki_293_2654, ⟨kbadG, trivial⟩⟩⟩⟩⟩⟩⟩⟩⟩⟩⟩⟩⟩⟩⟩⟩, ⟨⟨ki_293_2656, ⟨ki_293_2657, ⟨kbadG, ⟨kbadG, ⟨ki_293_2660, ⟨kbadG, ⟨ki_293_2662, ⟨ki_293_2663, ⟨kbadG, ⟨kbadG, ⟨ki_293_2666, ⟨kbadG, ⟨ki_293_2668, ⟨kbadG, ⟨kbadG, ⟨ki_293_2671, trivial⟩⟩⟩⟩⟩⟩⟩⟩⟩⟩⟩⟩⟩⟩⟩⟩, ⟨⟨ki_293_2672, ⟨ki_293_2673, ⟨kbadG, ⟨ki_293_2675, ⟨kbadG, ⟨kbadG, ⟨ki_293_2678, ⟨ki_293_2679, ⟨ki_293_2680, ⟨ki_293_2681, ⟨kbadG, ⟨ki_293_2683, ⟨ki_293_2684, ⟨ki_293_2685, ⟨kbadG, ⟨kbadG, trivial⟩⟩⟩⟩⟩⟩⟩⟩⟩⟩⟩⟩⟩⟩⟩⟩, ⟨⟨ki_293_2688, ⟨ki_293_2689, ⟨ki_293_2690, ⟨kbadG, ⟨kbadG, ⟨ki_293_2693, ⟨ki_293_2694, ⟨ki_293_2695, ⟨kbadG, ⟨kbadG, ⟨ki_293_2698, ⟨kbadG, ⟨ki_293_2700, ⟨ki_293_2701, ⟨kbadG, ⟨kbadG, trivial⟩⟩⟩⟩⟩⟩⟩⟩⟩⟩⟩⟩⟩⟩⟩⟩, ⟨⟨ki_293_2704, ⟨kbadG, ⟨ki_293_2706, ⟨ki_293_2707, ⟨kbadG, ⟨kbadG, ⟨ki_293_2710, ⟨kbadG, ⟨ki_293_2712, ⟨kbadG, ⟨kbadG, ⟨ki_293_2715, ⟨ki_293_2716, ⟨ki_293_2717, ⟨kbadG, ⟨ki_293_2719, trivial⟩⟩⟩⟩⟩⟩⟩⟩⟩⟩⟩⟩⟩⟩⟩⟩, ⟨⟨kbadG, ⟨kbadG, ⟨ki_293_2722, ⟨ki_293_2723, ⟨ki_293_2724, ⟨ki_293_2725, ⟨kbadG, ⟨ki_293_2727, ⟨ki_293_2728, ⟨ki_293_2729, ⟨kbadG, ⟨kbadG, ⟨ki_293_2732, ⟨ki_293_2733, ⟨ki_293_2734, ⟨kbadG, trivial⟩⟩⟩⟩⟩⟩⟩⟩⟩⟩⟩⟩⟩⟩⟩⟩, ⟨⟨kbadG, ⟨ki_293_2737, ⟨ki_293_2738, ⟨ki_293_2739, ⟨kbadG, ⟨kbadG, ⟨ki_293_2742, ⟨kbadG, ⟨ki_293_2744, ⟨ki_293_2745, ⟨kbadG, ⟨kbadG, ⟨ki_293_2748, ⟨kbadG, ⟨ki_293_2750, ⟨ki_293_2751, trivial⟩⟩⟩⟩⟩⟩⟩⟩⟩⟩⟩⟩⟩⟩⟩⟩, ⟨⟨kbadG, ⟨kbadG, ⟨ki_293_2754, ⟨kbadG, ⟨ki_293_2756, ⟨kbadG, ⟨kbadG, ⟨ki_293_2759, ⟨ki_293_2760, ⟨ki_293_2761, ⟨kbadG, ⟨ki_293_2763, ⟨kbadG, ⟨kbadG, ⟨ki_293_2766, ⟨ki_293_2767, trivial⟩⟩⟩⟩⟩⟩⟩⟩⟩⟩⟩⟩⟩⟩⟩⟩, ⟨⟨ki_293_2768, ⟨ki_293_2769, ⟨kbadG, ⟨ki_293_2771, ⟨ki_293_2772, ⟨ki_293_2773, ⟨kbadG, ⟨kbadG, ⟨ki_293_2776, ⟨ki_293_2777, ⟨ki_293_2778, ⟨kbadG, ⟨kbadG, ⟨ki_293_2781, ⟨ki_293_2782, ⟨kbadG, trivial⟩⟩⟩⟩⟩⟩⟩⟩⟩⟩⟩⟩⟩⟩⟩⟩, ⟨⟨kbadG, ⟨ki_293_2785, ⟨ki_293_2786, ⟨kbadG, ⟨kbadG, ⟨ki_293_2789, ⟨kbadG, ⟨kbadG, ⟨ki_293_2792, ⟨ki_293_2793, ⟨ki_293_2794, ⟨ki_293_2795, ⟨kbadG, ⟨kbadG, ⟨ki_293_2798, ⟨ki_293_2799, trivial⟩⟩⟩⟩⟩⟩⟩⟩⟩⟩⟩⟩⟩⟩⟩⟩, ⟨⟨kbadG, ⟨kbadG, ⟨ki_293_2802, ⟨kbadG, ⟨kbadG, ⟨ki_293_2805, ⟨ki_293_2806, ⟨ki_293_2807, ⟨ki_293_2808, ⟨ki_293_2809, ⟨kbadG, ⟨kbadG, ⟨ki_293_2812, ⟨kbadG, ⟨ki_293_2814, ⟨ki_293_2815, trivial⟩⟩⟩⟩⟩⟩⟩⟩⟩⟩⟩⟩⟩⟩⟩⟩, ⟨⟨kbadG, ⟨kbadG, ⟨ki_293_2818, ⟨kbadG, ⟨ki_293_2820, ⟨ki_293_2821, ⟨kbadG, ⟨kbadG, ⟨ki_293_2824, ⟨kbadG, ⟨ki_293_2826, ⟨kbadG, ⟨kbadG, ⟨ki_293_2829, ⟨ki_293_2830, ⟨ki_293_2831, trivial⟩⟩⟩⟩⟩⟩⟩⟩⟩⟩⟩⟩⟩⟩⟩⟩, ⟨⟨kbadG, ⟨ki_293_2833, ⟨kbadG, ⟨kbadG, ⟨ki_293_2836, ⟨ki_293_2837, ⟨ki_293_2838, ⟨ki_293_2839, ⟨kbadG, ⟨ki_293_2841, ⟨ki_293_2842, ⟨ki_293_2843, ⟨kbadG, ⟨kbadG, ⟨ki_293_2846, ⟨ki_293_2847, trivial⟩⟩⟩⟩⟩⟩⟩⟩⟩⟩⟩⟩⟩⟩⟩⟩, ⟨⟨ki_293_2848, ⟨kbadG, ⟨kbadG, ⟨ki_293_2851, ⟨kbadG, ⟨kbadG, ⟨ki_293_2854, ⟨kbadG, ⟨kbadG, ⟨ki_293_2857, ⟨ki_293_2858, trivial⟩⟩⟩⟩⟩⟩⟩⟩⟩⟩⟩, trivial⟩⟩⟩⟩⟩⟩⟩⟩⟩⟩⟩⟩⟩⟩⟩⟩⟩⟩⟩⟩⟩⟩⟩⟩⟩⟩⟩⟩⟩⟩⟩⟩⟩⟩⟩⟩⟩⟩⟩⟩⟩⟩⟩⟩⟩⟩⟩⟩⟩⟩⟩⟩⟩⟩⟩⟩⟩⟩⟩⟩⟩⟩⟩⟩⟩⟩⟩⟩⟩⟩⟩⟩⟩⟩⟩⟩⟩⟩⟩⟩⟩⟩⟩⟩⟩⟩⟩⟩⟩⟩⟩⟩⟩⟩⟩⟩⟩⟩⟩⟩⟩⟩⟩⟩⟩⟩⟩⟩⟩⟩⟩⟩⟩⟩⟩⟩⟩⟩⟩⟩⟩⟩⟩⟩⟩⟩⟩⟩⟩⟩⟩⟩⟩⟩⟩⟩⟩⟩⟩⟩⟩⟩⟩⟩⟩⟩⟩⟩⟩⟩⟩⟩⟩⟩⟩⟩⟩⟩⟩⟩⟩⟩⟩⟩⟩⟩⟩⟩⟩⟩⟩⟩⟩⟩⟩⟩⟩⟩⟩)
theorem js_allB : ∀ m, js_kB m = true → m ≠ 293 ∧ plainName (js_y m).cls = true ∧ js_t m = some .int ∧ (js_hp m).contains 0 = false ∧ js_mokG m := by
  intro m hm
  have h1 : 255 ≤ m ∧ m < 293 := by
    unfold js_kB at hm
    simp only [Bool.and_eq_true] at hm
    exact ⟨Nat.le_of_ble_eq_true hm.1, Nat.le_of_ble_eq_true hm.2⟩
  have h2 : ∀ k, k < 38 → plainName (js_y (255 + k)).cls = true ∧ js_t (255 + k) = some .int ∧ (js_hp (255 + k)).contains 0 = false := by decide +kernel
  have h3 := h2 (m - 255) (by omega)
  rw [show 255 + (m - 255) = m by omega] at h3
  refine ⟨by omega, h3.1, h3.2.1, h3.2.2, ?_⟩
  obtain ⟨k, hk, rfl⟩ : ∃ k, k < 38 ∧ m = 255 + k := ⟨m - 255, by omega, by omega⟩
  match k, hk with
  | 0, _ => exact mk_255
  | 1, _ => exact mk_256
  | 2, _ => exact mk_257
  | 3, _ => exact mk_258
  | 4, _ => exact mk_259
  | 5, _ => exact mk_260
  | 6, _ => exact mk_261
  | 7, _ => exact mk_262
  | 8, _ => exact mk_263
  | 9, _ => exact mk_264
  | 10, _ => exact mk_265
  | 11, _ => exact mk_266
  | 12, _ => exact mk_267
  | 13, _ => exact mk_268
  | 14, _ => exact mk_269
  | 15, _ => exact mk_270
  | 16, _ => exact mk_271
  | 17, _ => exact mk_272
  | 18, _ => exact mk_273
  | 19, _ => exact mk_274
  | 20, _ => exact mk_275
  | 21, _ => exact mk_276
  | 22, _ => exact mk_277
  | 23, _ => exact mk_278
  | 24, _ => exact mk_279
  | 25, _ => exact mk_280
  | 26, _ => exact mk_281
  | 27, _ => exact mk_282
  | 28, _ => exact mk_283
  | 29, _ => exact mk_284
  | 30, _ => exact mk_285
  | 31, _ => exact mk_286
  | 32, _ => exact mk_287
  | 33, _ => exact mk_288
  | 34, _ => exact mk_289
  | 35, _ => exact mk_290
  | 36, _ => exact mk_291
  | 37, _ => exact mk_292
  | k + 38, hk => omega
end JS
