section JS
theorem kbadG {m pc : Nat} : js_OkG m pc o_bad := js_St.okG st_bad (fun _ _ _ _ _ => rfl)
theorem kw_57 : (Jvm.Cond.methodLink "MosaicCatalogueLaw" 201 ⟨"MosaicCatalogueLaw", "drawn", "([I)LMosaicCatalogue;"⟩) ∈ js_ws := js_ws_of 57 (by decide +kernel) (by decide +kernel)
theorem kw_58 : (Jvm.Cond.static ⟨"MosaicCatalogueLaw", "drawn", "([I)LMosaicCatalogue;"⟩) ∈ js_ws := js_ws_of 58 (by decide +kernel) (by decide +kernel)
theorem kw_60 : (Jvm.Cond.classLink "MosaicCatalogueLaw" 9 "MosaicCatalogue") ∈ js_ws := js_ws_of 60 (by decide +kernel) (by decide +kernel)
theorem kw_61 : (Jvm.Cond.instantiable "MosaicCatalogue" 11) ∈ js_ws := js_ws_of 61 (by decide +kernel) (by decide +kernel)
theorem kw_62 : (Jvm.Cond.methodLink "MosaicCatalogueLaw" 153 ⟨"MosaicCatalogue", "<init>", "()V"⟩) ∈ js_ws := js_ws_of 62 (by decide +kernel) (by decide +kernel)
theorem kw_63 : (Jvm.Cond.instanceMethod ⟨"MosaicCatalogue", "<init>", "()V"⟩) ∈ js_ws := js_ws_of 63 (by decide +kernel) (by decide +kernel)
theorem kw_263 : (Jvm.Cond.methodLink "MosaicCatalogueLaw" 154 ⟨"MosaicCatalogueLaw", "cell", "([II)I"⟩) ∈ js_ws := js_ws_of 263 (by decide +kernel) (by decide +kernel)
theorem kw_264 : (Jvm.Cond.static ⟨"MosaicCatalogueLaw", "cell", "([II)I"⟩) ∈ js_ws := js_ws_of 264 (by decide +kernel) (by decide +kernel)
theorem kw_266 : (Jvm.Cond.constant "MosaicCatalogueLaw" 7 40503) ∈ js_ws := js_ws_of 266 (by decide +kernel) (by decide +kernel)
theorem kw_267 : (Jvm.Cond.methodLink "MosaicCatalogueLaw" 157 ⟨"MosaicCatalogueLaw", "patternOf", "(I)I"⟩) ∈ js_ws := js_ws_of 267 (by decide +kernel) (by decide +kernel)
theorem kw_268 : (Jvm.Cond.static ⟨"MosaicCatalogueLaw", "patternOf", "(I)I"⟩) ∈ js_ws := js_ws_of 268 (by decide +kernel) (by decide +kernel)
theorem kw_270 : (Jvm.Cond.methodLink "MosaicCatalogueLaw" 160 ⟨"MosaicCatalogueLaw", "add", "(LMosaicCatalogue;CIIII)I"⟩) ∈ js_ws := js_ws_of 270 (by decide +kernel) (by decide +kernel)
theorem kw_271 : (Jvm.Cond.static ⟨"MosaicCatalogueLaw", "add", "(LMosaicCatalogue;CIIII)I"⟩) ∈ js_ws := js_ws_of 271 (by decide +kernel) (by decide +kernel)
theorem kw_273 : (Jvm.Cond.classLink "MosaicCatalogueLaw" 14 "java/lang/IllegalArgumentException") ∈ js_ws := js_ws_of 273 (by decide +kernel) (by decide +kernel)
theorem kw_274 : (Jvm.Cond.classLink "MosaicCatalogueLaw" 16 "java/lang/IllegalStateException") ∈ js_ws := js_ws_of 274 (by decide +kernel) (by decide +kernel)
theorem kw_275 : (Jvm.Cond.methodLink "MosaicCatalogueLaw" 8 ⟨"MosaicCatalogue", "addFragment", "(CIIII)I"⟩) ∈ js_ws := js_ws_of 275 (by decide +kernel) (by decide +kernel)
theorem kw_276 : (Jvm.Cond.instanceMethod ⟨"MosaicCatalogue", "addFragment", "(CIIII)I"⟩) ∈ js_ws := js_ws_of 276 (by decide +kernel) (by decide +kernel)
theorem kw_277 : (Jvm.Cond.selects "MosaicCatalogue" ⟨"MosaicCatalogue", "addFragment", "(CIIII)I"⟩ ⟨"MosaicCatalogue", "addFragment", "(CIIII)I"⟩) ∈ js_ws := js_ws_of 277 (by decide +kernel) (by decide +kernel)
theorem kw_446 : (Jvm.Cond.methodLink "MosaicCatalogueLaw" 164 ⟨"MosaicCatalogueLaw", "setTurn", "(LMosaicCatalogue;II)I"⟩) ∈ js_ws := js_ws_of 446 (by decide +kernel) (by decide +kernel)
theorem kw_447 : (Jvm.Cond.static ⟨"MosaicCatalogueLaw", "setTurn", "(LMosaicCatalogue;II)I"⟩) ∈ js_ws := js_ws_of 447 (by decide +kernel) (by decide +kernel)
theorem kw_449 : (Jvm.Cond.classLink "MosaicCatalogueLaw" 22 "java/util/NoSuchElementException") ∈ js_ws := js_ws_of 449 (by decide +kernel) (by decide +kernel)
theorem kw_450 : (Jvm.Cond.methodLink "MosaicCatalogueLaw" 54 ⟨"MosaicCatalogue", "setTurn", "(II)I"⟩) ∈ js_ws := js_ws_of 450 (by decide +kernel) (by decide +kernel)
theorem kw_451 : (Jvm.Cond.instanceMethod ⟨"MosaicCatalogue", "setTurn", "(II)I"⟩) ∈ js_ws := js_ws_of 451 (by decide +kernel) (by decide +kernel)
theorem kw_452 : (Jvm.Cond.selects "MosaicCatalogue" ⟨"MosaicCatalogue", "setTurn", "(II)I"⟩ ⟨"MosaicCatalogue", "setTurn", "(II)I"⟩) ∈ js_ws := js_ws_of 452 (by decide +kernel) (by decide +kernel)
theorem kw_466 : (Jvm.Cond.methodLink "MosaicCatalogueLaw" 167 ⟨"MosaicCatalogueLaw", "placeGuess", "(LMosaicCatalogue;II)I"⟩) ∈ js_ws := js_ws_of 466 (by decide +kernel) (by decide +kernel)
theorem kw_467 : (Jvm.Cond.static ⟨"MosaicCatalogueLaw", "placeGuess", "(LMosaicCatalogue;II)I"⟩) ∈ js_ws := js_ws_of 467 (by decide +kernel) (by decide +kernel)
theorem kw_469 : (Jvm.Cond.classLink "MosaicCatalogueLaw" 27 "java/lang/IndexOutOfBoundsException") ∈ js_ws := js_ws_of 469 (by decide +kernel) (by decide +kernel)
theorem kw_490 : (Jvm.Cond.classLink "MosaicCatalogueLaw" 63 "java/lang/UnsupportedOperationException") ∈ js_ws := js_ws_of 490 (by decide +kernel) (by decide +kernel)
theorem kw_491 : (Jvm.Cond.methodLink "MosaicCatalogueLaw" 60 ⟨"MosaicCatalogue", "placeGuess", "(II)I"⟩) ∈ js_ws := js_ws_of 491 (by decide +kernel) (by decide +kernel)
theorem kw_492 : (Jvm.Cond.instanceMethod ⟨"MosaicCatalogue", "placeGuess", "(II)I"⟩) ∈ js_ws := js_ws_of 492 (by decide +kernel) (by decide +kernel)
theorem kw_493 : (Jvm.Cond.selects "MosaicCatalogue" ⟨"MosaicCatalogue", "placeGuess", "(II)I"⟩ ⟨"MosaicCatalogue", "placeGuess", "(II)I"⟩) ∈ js_ws := js_ws_of 493 (by decide +kernel) (by decide +kernel)
theorem kw_588 : (Jvm.Cond.methodLink "MosaicCatalogueLaw" 169 ⟨"MosaicCatalogueLaw", "place", "(LMosaicCatalogue;III)I"⟩) ∈ js_ws := js_ws_of 588 (by decide +kernel) (by decide +kernel)
theorem kw_589 : (Jvm.Cond.static ⟨"MosaicCatalogueLaw", "place", "(LMosaicCatalogue;III)I"⟩) ∈ js_ws := js_ws_of 589 (by decide +kernel) (by decide +kernel)
theorem kw_591 : (Jvm.Cond.methodLink "MosaicCatalogueLaw" 47 ⟨"MosaicCatalogue", "place", "(III)I"⟩) ∈ js_ws := js_ws_of 591 (by decide +kernel) (by decide +kernel)
theorem kw_592 : (Jvm.Cond.instanceMethod ⟨"MosaicCatalogue", "place", "(III)I"⟩) ∈ js_ws := js_ws_of 592 (by decide +kernel) (by decide +kernel)
theorem kw_593 : (Jvm.Cond.selects "MosaicCatalogue" ⟨"MosaicCatalogue", "place", "(III)I"⟩ ⟨"MosaicCatalogue", "place", "(III)I"⟩) ∈ js_ws := js_ws_of 593 (by decide +kernel) (by decide +kernel)
theorem kw_610 : (Jvm.Cond.methodLink "MosaicCatalogueLaw" 172 ⟨"MosaicCatalogueLaw", "takeBack", "(LMosaicCatalogue;I)I"⟩) ∈ js_ws := js_ws_of 610 (by decide +kernel) (by decide +kernel)
theorem kw_611 : (Jvm.Cond.static ⟨"MosaicCatalogueLaw", "takeBack", "(LMosaicCatalogue;I)I"⟩) ∈ js_ws := js_ws_of 611 (by decide +kernel) (by decide +kernel)
theorem kw_613 : (Jvm.Cond.methodLink "MosaicCatalogueLaw" 51 ⟨"MosaicCatalogue", "takeBack", "(I)I"⟩) ∈ js_ws := js_ws_of 613 (by decide +kernel) (by decide +kernel)
theorem kw_614 : (Jvm.Cond.instanceMethod ⟨"MosaicCatalogue", "takeBack", "(I)I"⟩) ∈ js_ws := js_ws_of 614 (by decide +kernel) (by decide +kernel)
theorem kw_615 : (Jvm.Cond.selects "MosaicCatalogue" ⟨"MosaicCatalogue", "takeBack", "(I)I"⟩ ⟨"MosaicCatalogue", "takeBack", "(I)I"⟩) ∈ js_ws := js_ws_of 615 (by decide +kernel) (by decide +kernel)
theorem kw_621 : (Jvm.Cond.methodLink "MosaicCatalogueLaw" 205 ⟨"MosaicCatalogueLaw", "fragments", "(LMosaicCatalogue;)Z"⟩) ∈ js_ws := js_ws_of 621 (by decide +kernel) (by decide +kernel)
theorem kw_622 : (Jvm.Cond.static ⟨"MosaicCatalogueLaw", "fragments", "(LMosaicCatalogue;)Z"⟩) ∈ js_ws := js_ws_of 622 (by decide +kernel) (by decide +kernel)
theorem kw_624 : (Jvm.Cond.methodLink "MosaicCatalogueLaw" 225 ⟨"MosaicCatalogue", "exists", "(I)Z"⟩) ∈ js_ws := js_ws_of 624 (by decide +kernel) (by decide +kernel)
theorem kw_625 : (Jvm.Cond.instanceMethod ⟨"MosaicCatalogue", "exists", "(I)Z"⟩) ∈ js_ws := js_ws_of 625 (by decide +kernel) (by decide +kernel)
theorem kw_626 : (Jvm.Cond.selects "MosaicCatalogue" ⟨"MosaicCatalogue", "exists", "(I)Z"⟩ ⟨"MosaicCatalogue", "exists", "(I)Z"⟩) ∈ js_ws := js_ws_of 626 (by decide +kernel) (by decide +kernel)
theorem kw_629 : (Jvm.Cond.methodLink "MosaicCatalogueLaw" 228 ⟨"MosaicCatalogueLaw", "colour", "(LMosaicCatalogue;I)I"⟩) ∈ js_ws := js_ws_of 629 (by decide +kernel) (by decide +kernel)
theorem kw_630 : (Jvm.Cond.static ⟨"MosaicCatalogueLaw", "colour", "(LMosaicCatalogue;I)I"⟩) ∈ js_ws := js_ws_of 630 (by decide +kernel) (by decide +kernel)
theorem kw_632 : (Jvm.Cond.methodLink "MosaicCatalogueLaw" 29 ⟨"MosaicCatalogue", "colour", "(I)C"⟩) ∈ js_ws := js_ws_of 632 (by decide +kernel) (by decide +kernel)
theorem kw_633 : (Jvm.Cond.instanceMethod ⟨"MosaicCatalogue", "colour", "(I)C"⟩) ∈ js_ws := js_ws_of 633 (by decide +kernel) (by decide +kernel)
theorem kw_634 : (Jvm.Cond.selects "MosaicCatalogue" ⟨"MosaicCatalogue", "colour", "(I)C"⟩ ⟨"MosaicCatalogue", "colour", "(I)C"⟩) ∈ js_ws := js_ws_of 634 (by decide +kernel) (by decide +kernel)
theorem kw_640 : (Jvm.Cond.methodLink "MosaicCatalogueLaw" 230 ⟨"MosaicCatalogueLaw", "turn", "(LMosaicCatalogue;I)I"⟩) ∈ js_ws := js_ws_of 640 (by decide +kernel) (by decide +kernel)
theorem kw_641 : (Jvm.Cond.static ⟨"MosaicCatalogueLaw", "turn", "(LMosaicCatalogue;I)I"⟩) ∈ js_ws := js_ws_of 641 (by decide +kernel) (by decide +kernel)
theorem kw_643 : (Jvm.Cond.methodLink "MosaicCatalogueLaw" 33 ⟨"MosaicCatalogue", "turn", "(I)I"⟩) ∈ js_ws := js_ws_of 643 (by decide +kernel) (by decide +kernel)
theorem kw_644 : (Jvm.Cond.instanceMethod ⟨"MosaicCatalogue", "turn", "(I)I"⟩) ∈ js_ws := js_ws_of 644 (by decide +kernel) (by decide +kernel)
theorem kw_645 : (Jvm.Cond.selects "MosaicCatalogue" ⟨"MosaicCatalogue", "turn", "(I)I"⟩ ⟨"MosaicCatalogue", "turn", "(I)I"⟩) ∈ js_ws := js_ws_of 645 (by decide +kernel) (by decide +kernel)
theorem kw_647 : (Jvm.Cond.methodLink "MosaicCatalogueLaw" 232 ⟨"MosaicCatalogueLaw", "isPlaced", "(LMosaicCatalogue;I)I"⟩) ∈ js_ws := js_ws_of 647 (by decide +kernel) (by decide +kernel)
theorem kw_648 : (Jvm.Cond.static ⟨"MosaicCatalogueLaw", "isPlaced", "(LMosaicCatalogue;I)I"⟩) ∈ js_ws := js_ws_of 648 (by decide +kernel) (by decide +kernel)
theorem kw_650 : (Jvm.Cond.methodLink "MosaicCatalogueLaw" 40 ⟨"MosaicCatalogue", "isPlaced", "(I)Z"⟩) ∈ js_ws := js_ws_of 650 (by decide +kernel) (by decide +kernel)
theorem kw_651 : (Jvm.Cond.instanceMethod ⟨"MosaicCatalogue", "isPlaced", "(I)Z"⟩) ∈ js_ws := js_ws_of 651 (by decide +kernel) (by decide +kernel)
theorem kw_652 : (Jvm.Cond.selects "MosaicCatalogue" ⟨"MosaicCatalogue", "isPlaced", "(I)Z"⟩ ⟨"MosaicCatalogue", "isPlaced", "(I)Z"⟩) ∈ js_ws := js_ws_of 652 (by decide +kernel) (by decide +kernel)
theorem kw_655 : (Jvm.Cond.methodLink "MosaicCatalogueLaw" 234 ⟨"MosaicCatalogueLaw", "edge", "(LMosaicCatalogue;II)I"⟩) ∈ js_ws := js_ws_of 655 (by decide +kernel) (by decide +kernel)
theorem kw_656 : (Jvm.Cond.static ⟨"MosaicCatalogueLaw", "edge", "(LMosaicCatalogue;II)I"⟩) ∈ js_ws := js_ws_of 656 (by decide +kernel) (by decide +kernel)
theorem kw_658 : (Jvm.Cond.methodLink "MosaicCatalogueLaw" 36 ⟨"MosaicCatalogue", "edge", "(II)I"⟩) ∈ js_ws := js_ws_of 658 (by decide +kernel) (by decide +kernel)
theorem kw_659 : (Jvm.Cond.instanceMethod ⟨"MosaicCatalogue", "edge", "(II)I"⟩) ∈ js_ws := js_ws_of 659 (by decide +kernel) (by decide +kernel)
theorem kw_660 : (Jvm.Cond.selects "MosaicCatalogue" ⟨"MosaicCatalogue", "edge", "(II)I"⟩ ⟨"MosaicCatalogue", "edge", "(II)I"⟩) ∈ js_ws := js_ws_of 660 (by decide +kernel) (by decide +kernel)
theorem kw_667 : (Jvm.Cond.methodLink "MosaicCatalogueLaw" 236 ⟨"MosaicCatalogueLaw", "inTray", "(LMosaicCatalogue;I)I"⟩) ∈ js_ws := js_ws_of 667 (by decide +kernel) (by decide +kernel)
theorem kw_668 : (Jvm.Cond.static ⟨"MosaicCatalogueLaw", "inTray", "(LMosaicCatalogue;I)I"⟩) ∈ js_ws := js_ws_of 668 (by decide +kernel) (by decide +kernel)
theorem kw_670 : (Jvm.Cond.methodLink "MosaicCatalogueLaw" 24 ⟨"MosaicCatalogue", "inTray", "(I)I"⟩) ∈ js_ws := js_ws_of 670 (by decide +kernel) (by decide +kernel)
theorem kw_671 : (Jvm.Cond.instanceMethod ⟨"MosaicCatalogue", "inTray", "(I)I"⟩) ∈ js_ws := js_ws_of 671 (by decide +kernel) (by decide +kernel)
theorem kw_672 : (Jvm.Cond.selects "MosaicCatalogue" ⟨"MosaicCatalogue", "inTray", "(I)I"⟩ ⟨"MosaicCatalogue", "inTray", "(I)I"⟩) ∈ js_ws := js_ws_of 672 (by decide +kernel) (by decide +kernel)
theorem kw_679 : (Jvm.Cond.methodLink "MosaicCatalogueLaw" 238 ⟨"MosaicCatalogueLaw", "cellOf", "(LMosaicCatalogue;I)I"⟩) ∈ js_ws := js_ws_of 679 (by decide +kernel) (by decide +kernel)
theorem kw_680 : (Jvm.Cond.static ⟨"MosaicCatalogueLaw", "cellOf", "(LMosaicCatalogue;I)I"⟩) ∈ js_ws := js_ws_of 680 (by decide +kernel) (by decide +kernel)
theorem kw_682 : (Jvm.Cond.methodLink "MosaicCatalogueLaw" 44 ⟨"MosaicCatalogue", "cell", "(I)I"⟩) ∈ js_ws := js_ws_of 682 (by decide +kernel) (by decide +kernel)
theorem kw_683 : (Jvm.Cond.instanceMethod ⟨"MosaicCatalogue", "cell", "(I)I"⟩) ∈ js_ws := js_ws_of 683 (by decide +kernel) (by decide +kernel)
theorem kw_684 : (Jvm.Cond.selects "MosaicCatalogue" ⟨"MosaicCatalogue", "cell", "(I)I"⟩ ⟨"MosaicCatalogue", "cell", "(I)I"⟩) ∈ js_ws := js_ws_of 684 (by decide +kernel) (by decide +kernel)
theorem kw_691 : (Jvm.Cond.methodLink "MosaicCatalogueLaw" 241 ⟨"MosaicCatalogueLaw", "fitsAt", "(LMosaicCatalogue;II)I"⟩) ∈ js_ws := js_ws_of 691 (by decide +kernel) (by decide +kernel)
theorem kw_692 : (Jvm.Cond.static ⟨"MosaicCatalogueLaw", "fitsAt", "(LMosaicCatalogue;II)I"⟩) ∈ js_ws := js_ws_of 692 (by decide +kernel) (by decide +kernel)
theorem kw_694 : (Jvm.Cond.methodLink "MosaicCatalogueLaw" 72 ⟨"MosaicCatalogue", "fitsAt", "(II)Z"⟩) ∈ js_ws := js_ws_of 694 (by decide +kernel) (by decide +kernel)
theorem kw_695 : (Jvm.Cond.instanceMethod ⟨"MosaicCatalogue", "fitsAt", "(II)Z"⟩) ∈ js_ws := js_ws_of 695 (by decide +kernel) (by decide +kernel)
theorem kw_696 : (Jvm.Cond.selects "MosaicCatalogue" ⟨"MosaicCatalogue", "fitsAt", "(II)Z"⟩ ⟨"MosaicCatalogue", "fitsAt", "(II)Z"⟩) ∈ js_ws := js_ws_of 696 (by decide +kernel) (by decide +kernel)
theorem kw_699 : (Jvm.Cond.methodLink "MosaicCatalogueLaw" 243 ⟨"MosaicCatalogueLaw", "clashesOf", "(LMosaicCatalogue;I)I"⟩) ∈ js_ws := js_ws_of 699 (by decide +kernel) (by decide +kernel)
theorem kw_700 : (Jvm.Cond.static ⟨"MosaicCatalogueLaw", "clashesOf", "(LMosaicCatalogue;I)I"⟩) ∈ js_ws := js_ws_of 700 (by decide +kernel) (by decide +kernel)
theorem kw_702 : (Jvm.Cond.methodLink "MosaicCatalogueLaw" 75 ⟨"MosaicCatalogue", "clashesOf", "(I)I"⟩) ∈ js_ws := js_ws_of 702 (by decide +kernel) (by decide +kernel)
theorem kw_703 : (Jvm.Cond.instanceMethod ⟨"MosaicCatalogue", "clashesOf", "(I)I"⟩) ∈ js_ws := js_ws_of 703 (by decide +kernel) (by decide +kernel)
theorem kw_704 : (Jvm.Cond.selects "MosaicCatalogue" ⟨"MosaicCatalogue", "clashesOf", "(I)I"⟩ ⟨"MosaicCatalogue", "clashesOf", "(I)I"⟩) ∈ js_ws := js_ws_of 704 (by decide +kernel) (by decide +kernel)
theorem kw_707 : (Jvm.Cond.methodLink "MosaicCatalogueLaw" 245 ⟨"MosaicCatalogueLaw", "groupSize", "(LMosaicCatalogue;I)I"⟩) ∈ js_ws := js_ws_of 707 (by decide +kernel) (by decide +kernel)
theorem kw_708 : (Jvm.Cond.static ⟨"MosaicCatalogueLaw", "groupSize", "(LMosaicCatalogue;I)I"⟩) ∈ js_ws := js_ws_of 708 (by decide +kernel) (by decide +kernel)
theorem kw_710 : (Jvm.Cond.methodLink "MosaicCatalogueLaw" 94 ⟨"MosaicCatalogue", "groupSize", "(I)I"⟩) ∈ js_ws := js_ws_of 710 (by decide +kernel) (by decide +kernel)
theorem kw_711 : (Jvm.Cond.instanceMethod ⟨"MosaicCatalogue", "groupSize", "(I)I"⟩) ∈ js_ws := js_ws_of 711 (by decide +kernel) (by decide +kernel)
theorem kw_712 : (Jvm.Cond.selects "MosaicCatalogue" ⟨"MosaicCatalogue", "groupSize", "(I)I"⟩ ⟨"MosaicCatalogue", "groupSize", "(I)I"⟩) ∈ js_ws := js_ws_of 712 (by decide +kernel) (by decide +kernel)
theorem kw_733 : (Jvm.Cond.methodLink "MosaicCatalogueLaw" 247 ⟨"MosaicCatalogueLaw", "groupMask", "(LMosaicCatalogue;I)J"⟩) ∈ js_ws := js_ws_of 733 (by decide +kernel) (by decide +kernel)
theorem kw_734 : (Jvm.Cond.static ⟨"MosaicCatalogueLaw", "groupMask", "(LMosaicCatalogue;I)J"⟩) ∈ js_ws := js_ws_of 734 (by decide +kernel) (by decide +kernel)
theorem kw_736 : (Jvm.Cond.methodLink "MosaicCatalogueLaw" 132 ⟨"MosaicCatalogue", "groupMask", "(I)J"⟩) ∈ js_ws := js_ws_of 736 (by decide +kernel) (by decide +kernel)
theorem kw_737 : (Jvm.Cond.constantLong "MosaicCatalogueLaw" 130 (-2)) ∈ js_ws := js_ws_of 737 (by decide +kernel) (by decide +kernel)
theorem kw_738 : (Jvm.Cond.methodLink "MosaicCatalogueLaw" 175 ⟨"MosaicCatalogueLaw", "at", "(LMosaicCatalogue;II)I"⟩) ∈ js_ws := js_ws_of 738 (by decide +kernel) (by decide +kernel)
theorem kw_739 : (Jvm.Cond.static ⟨"MosaicCatalogueLaw", "at", "(LMosaicCatalogue;II)I"⟩) ∈ js_ws := js_ws_of 739 (by decide +kernel) (by decide +kernel)
theorem kw_741 : (Jvm.Cond.methodLink "MosaicCatalogueLaw" 69 ⟨"MosaicCatalogue", "fragmentAt", "(II)I"⟩) ∈ js_ws := js_ws_of 741 (by decide +kernel) (by decide +kernel)
theorem kw_742 : (Jvm.Cond.instanceMethod ⟨"MosaicCatalogue", "fragmentAt", "(II)I"⟩) ∈ js_ws := js_ws_of 742 (by decide +kernel) (by decide +kernel)
theorem kw_743 : (Jvm.Cond.selects "MosaicCatalogue" ⟨"MosaicCatalogue", "fragmentAt", "(II)I"⟩ ⟨"MosaicCatalogue", "fragmentAt", "(II)I"⟩) ∈ js_ws := js_ws_of 743 (by decide +kernel) (by decide +kernel)
theorem kw_746 : (Jvm.Cond.methodLink "MosaicCatalogueLaw" 250 ⟨"MosaicCatalogue", "fragmentCount", "()I"⟩) ∈ js_ws := js_ws_of 746 (by decide +kernel) (by decide +kernel)
theorem kw_747 : (Jvm.Cond.instanceMethod ⟨"MosaicCatalogue", "fragmentCount", "()I"⟩) ∈ js_ws := js_ws_of 747 (by decide +kernel) (by decide +kernel)
theorem kw_748 : (Jvm.Cond.selects "MosaicCatalogue" ⟨"MosaicCatalogue", "fragmentCount", "()I"⟩ ⟨"MosaicCatalogue", "fragmentCount", "()I"⟩) ∈ js_ws := js_ws_of 748 (by decide +kernel) (by decide +kernel)
theorem kw_750 : (Jvm.Cond.methodLink "MosaicCatalogueLaw" 193 ⟨"MosaicCatalogue", "trayCount", "()I"⟩) ∈ js_ws := js_ws_of 750 (by decide +kernel) (by decide +kernel)
theorem kw_751 : (Jvm.Cond.instanceMethod ⟨"MosaicCatalogue", "trayCount", "()I"⟩) ∈ js_ws := js_ws_of 751 (by decide +kernel) (by decide +kernel)
theorem kw_752 : (Jvm.Cond.selects "MosaicCatalogue" ⟨"MosaicCatalogue", "trayCount", "()I"⟩ ⟨"MosaicCatalogue", "trayCount", "()I"⟩) ∈ js_ws := js_ws_of 752 (by decide +kernel) (by decide +kernel)
theorem kw_758 : (Jvm.Cond.methodLink "MosaicCatalogueLaw" 253 ⟨"MosaicCatalogue", "differentPatterns", "()I"⟩) ∈ js_ws := js_ws_of 758 (by decide +kernel) (by decide +kernel)
theorem kw_759 : (Jvm.Cond.instanceMethod ⟨"MosaicCatalogue", "differentPatterns", "()I"⟩) ∈ js_ws := js_ws_of 759 (by decide +kernel) (by decide +kernel)
theorem kw_760 : (Jvm.Cond.selects "MosaicCatalogue" ⟨"MosaicCatalogue", "differentPatterns", "()I"⟩ ⟨"MosaicCatalogue", "differentPatterns", "()I"⟩) ∈ js_ws := js_ws_of 760 (by decide +kernel) (by decide +kernel)
theorem kw_768 : (Jvm.Cond.arrayClass FieldType.boolean) ∈ js_ws := js_ws_of 768 (by decide +kernel) (by decide +kernel)
theorem kw_769 : (Jvm.Cond.methodLink "MosaicCatalogueLaw" 209 ⟨"MosaicCatalogueLaw", "grid", "(LMosaicCatalogue;)Z"⟩) ∈ js_ws := js_ws_of 769 (by decide +kernel) (by decide +kernel)
theorem kw_770 : (Jvm.Cond.static ⟨"MosaicCatalogueLaw", "grid", "(LMosaicCatalogue;)Z"⟩) ∈ js_ws := js_ws_of 770 (by decide +kernel) (by decide +kernel)
theorem kw_772 : (Jvm.Cond.methodLink "MosaicCatalogueLaw" 256 ⟨"MosaicCatalogueLaw", "isGap", "(LMosaicCatalogue;II)Z"⟩) ∈ js_ws := js_ws_of 772 (by decide +kernel) (by decide +kernel)
theorem kw_773 : (Jvm.Cond.static ⟨"MosaicCatalogueLaw", "isGap", "(LMosaicCatalogue;II)Z"⟩) ∈ js_ws := js_ws_of 773 (by decide +kernel) (by decide +kernel)
theorem kw_775 : (Jvm.Cond.methodLink "MosaicCatalogueLaw" 178 ⟨"MosaicCatalogueLaw", "beside", "(LMosaicCatalogue;III)I"⟩) ∈ js_ws := js_ws_of 775 (by decide +kernel) (by decide +kernel)
theorem kw_776 : (Jvm.Cond.static ⟨"MosaicCatalogueLaw", "beside", "(LMosaicCatalogue;III)I"⟩) ∈ js_ws := js_ws_of 776 (by decide +kernel) (by decide +kernel)
theorem kw_778 : (Jvm.Cond.methodLink "MosaicCatalogueLaw" 181 ⟨"MosaicCatalogueLaw", "isEmpty", "(LMosaicCatalogue;II)I"⟩) ∈ js_ws := js_ws_of 778 (by decide +kernel) (by decide +kernel)
theorem kw_779 : (Jvm.Cond.static ⟨"MosaicCatalogueLaw", "isEmpty", "(LMosaicCatalogue;II)I"⟩) ∈ js_ws := js_ws_of 779 (by decide +kernel) (by decide +kernel)
theorem kw_781 : (Jvm.Cond.methodLink "MosaicCatalogueLaw" 65 ⟨"MosaicCatalogue", "isEmpty", "(II)Z"⟩) ∈ js_ws := js_ws_of 781 (by decide +kernel) (by decide +kernel)
theorem kw_782 : (Jvm.Cond.instanceMethod ⟨"MosaicCatalogue", "isEmpty", "(II)Z"⟩) ∈ js_ws := js_ws_of 782 (by decide +kernel) (by decide +kernel)
theorem kw_783 : (Jvm.Cond.selects "MosaicCatalogue" ⟨"MosaicCatalogue", "isEmpty", "(II)Z"⟩ ⟨"MosaicCatalogue", "isEmpty", "(II)Z"⟩) ∈ js_ws := js_ws_of 783 (by decide +kernel) (by decide +kernel)
theorem kw_785 : (Jvm.Cond.methodLink "MosaicCatalogueLaw" 198 ⟨"MosaicCatalogueLaw", "contact", "(LMosaicCatalogue;III)I"⟩) ∈ js_ws := js_ws_of 785 (by decide +kernel) (by decide +kernel)
theorem kw_786 : (Jvm.Cond.static ⟨"MosaicCatalogueLaw", "contact", "(LMosaicCatalogue;III)I"⟩) ∈ js_ws := js_ws_of 786 (by decide +kernel) (by decide +kernel)
theorem kw_788 : (Jvm.Cond.methodLink "MosaicCatalogueLaw" 260 ⟨"MosaicCatalogueLaw", "contacts", "(LMosaicCatalogue;III)I"⟩) ∈ js_ws := js_ws_of 788 (by decide +kernel) (by decide +kernel)
theorem kw_789 : (Jvm.Cond.static ⟨"MosaicCatalogueLaw", "contacts", "(LMosaicCatalogue;III)I"⟩) ∈ js_ws := js_ws_of 789 (by decide +kernel) (by decide +kernel)
theorem kw_791 : (Jvm.Cond.methodLink "MosaicCatalogueLaw" 263 ⟨"MosaicCatalogueLaw", "outline", "(LMosaicCatalogue;II)I"⟩) ∈ js_ws := js_ws_of 791 (by decide +kernel) (by decide +kernel)
theorem kw_792 : (Jvm.Cond.static ⟨"MosaicCatalogueLaw", "outline", "(LMosaicCatalogue;II)I"⟩) ∈ js_ws := js_ws_of 792 (by decide +kernel) (by decide +kernel)
theorem kw_794 : (Jvm.Cond.methodLink "MosaicCatalogueLaw" 78 ⟨"MosaicCatalogue", "outlineSize", "(II)I"⟩) ∈ js_ws := js_ws_of 794 (by decide +kernel) (by decide +kernel)
theorem kw_795 : (Jvm.Cond.instanceMethod ⟨"MosaicCatalogue", "outlineSize", "(II)I"⟩) ∈ js_ws := js_ws_of 795 (by decide +kernel) (by decide +kernel)
theorem kw_796 : (Jvm.Cond.selects "MosaicCatalogue" ⟨"MosaicCatalogue", "outlineSize", "(II)I"⟩ ⟨"MosaicCatalogue", "outlineSize", "(II)I"⟩) ∈ js_ws := js_ws_of 796 (by decide +kernel) (by decide +kernel)
theorem kw_799 : (Jvm.Cond.methodLink "MosaicCatalogueLaw" 266 ⟨"MosaicCatalogueLaw", "colourMask", "(LMosaicCatalogue;C)J"⟩) ∈ js_ws := js_ws_of 799 (by decide +kernel) (by decide +kernel)
theorem kw_800 : (Jvm.Cond.static ⟨"MosaicCatalogueLaw", "colourMask", "(LMosaicCatalogue;C)J"⟩) ∈ js_ws := js_ws_of 800 (by decide +kernel) (by decide +kernel)
theorem kw_802 : (Jvm.Cond.methodLink "MosaicCatalogueLaw" 126 ⟨"MosaicCatalogue", "colourMask", "(C)J"⟩) ∈ js_ws := js_ws_of 802 (by decide +kernel) (by decide +kernel)
theorem kw_803 : (Jvm.Cond.instanceMethod ⟨"MosaicCatalogue", "colourMask", "(C)J"⟩) ∈ js_ws := js_ws_of 803 (by decide +kernel) (by decide +kernel)
theorem kw_804 : (Jvm.Cond.selects "MosaicCatalogue" ⟨"MosaicCatalogue", "colourMask", "(C)J"⟩ ⟨"MosaicCatalogue", "colourMask", "(C)J"⟩) ∈ js_ws := js_ws_of 804 (by decide +kernel) (by decide +kernel)
theorem kw_809 : (Jvm.Cond.methodLink "MosaicCatalogueLaw" 269 ⟨"MosaicCatalogueLaw", "pairs", "(LMosaicCatalogue;I)I"⟩) ∈ js_ws := js_ws_of 809 (by decide +kernel) (by decide +kernel)
theorem kw_810 : (Jvm.Cond.static ⟨"MosaicCatalogueLaw", "pairs", "(LMosaicCatalogue;I)I"⟩) ∈ js_ws := js_ws_of 810 (by decide +kernel) (by decide +kernel)
theorem kw_812 : (Jvm.Cond.methodLink "MosaicCatalogueLaw" 272 ⟨"MosaicCatalogue", "joinFraction", "()F"⟩) ∈ js_ws := js_ws_of 812 (by decide +kernel) (by decide +kernel)
theorem kw_836 : (Jvm.Cond.arrayClass FieldType.long) ∈ js_ws := js_ws_of 836 (by decide +kernel) (by decide +kernel)
theorem kw_837 : (Jvm.Cond.methodLink "MosaicCatalogueLaw" 276 ⟨"MosaicCatalogue", "joinFractionBits", "()I"⟩) ∈ js_ws := js_ws_of 837 (by decide +kernel) (by decide +kernel)
theorem kw_838 : (Jvm.Cond.instanceMethod ⟨"MosaicCatalogue", "joinFractionBits", "()I"⟩) ∈ js_ws := js_ws_of 838 (by decide +kernel) (by decide +kernel)
theorem kw_839 : (Jvm.Cond.selects "MosaicCatalogue" ⟨"MosaicCatalogue", "joinFractionBits", "()I"⟩ ⟨"MosaicCatalogue", "joinFractionBits", "()I"⟩) ∈ js_ws := js_ws_of 839 (by decide +kernel) (by decide +kernel)
theorem kw_846 : (Jvm.Cond.methodLink "MosaicCatalogueLaw" 279 ⟨"java/lang/Float", "floatToIntBits", "(F)I"⟩) ∈ js_ws := js_ws_of 846 (by decide +kernel) (by decide +kernel)
theorem kw_847 : (Jvm.Cond.static ⟨"java/lang/Float", "floatToIntBits", "(F)I"⟩) ∈ js_ws := js_ws_of 847 (by decide +kernel) (by decide +kernel)
theorem kw_856 : (Jvm.Cond.methodLink "MosaicCatalogueLaw" 285 ⟨"MosaicCatalogue", "meanJoins", "()D"⟩) ∈ js_ws := js_ws_of 856 (by decide +kernel) (by decide +kernel)
theorem kw_857 : (Jvm.Cond.instanceMethod ⟨"MosaicCatalogue", "meanJoins", "()D"⟩) ∈ js_ws := js_ws_of 857 (by decide +kernel) (by decide +kernel)
theorem kw_858 : (Jvm.Cond.selects "MosaicCatalogue" ⟨"MosaicCatalogue", "meanJoins", "()D"⟩ ⟨"MosaicCatalogue", "meanJoins", "()D"⟩) ∈ js_ws := js_ws_of 858 (by decide +kernel) (by decide +kernel)
theorem kw_861 : (Jvm.Cond.methodLink "MosaicCatalogueLaw" 289 ⟨"MosaicCatalogue", "placedMask", "()J"⟩) ∈ js_ws := js_ws_of 861 (by decide +kernel) (by decide +kernel)
theorem kw_865 : (Jvm.Cond.methodLink "MosaicCatalogueLaw" 293 ⟨"MosaicCatalogue", "gapMask", "()J"⟩) ∈ js_ws := js_ws_of 865 (by decide +kernel) (by decide +kernel)
theorem kw_869 : (Jvm.Cond.methodLink "MosaicCatalogueLaw" 296 ⟨"MosaicCatalogue", "gapMaskByShifts", "()J"⟩) ∈ js_ws := js_ws_of 869 (by decide +kernel) (by decide +kernel)
theorem kw_877 : (Jvm.Cond.methodLink "MosaicCatalogueLaw" 299 ⟨"MosaicCatalogue", "gapCount", "()I"⟩) ∈ js_ws := js_ws_of 877 (by decide +kernel) (by decide +kernel)
theorem kw_878 : (Jvm.Cond.instanceMethod ⟨"MosaicCatalogue", "gapCount", "()I"⟩) ∈ js_ws := js_ws_of 878 (by decide +kernel) (by decide +kernel)
theorem kw_879 : (Jvm.Cond.selects "MosaicCatalogue" ⟨"MosaicCatalogue", "gapCount", "()I"⟩ ⟨"MosaicCatalogue", "gapCount", "()I"⟩) ∈ js_ws := js_ws_of 879 (by decide +kernel) (by decide +kernel)
theorem kw_882 : (Jvm.Cond.methodLink "MosaicCatalogueLaw" 302 ⟨"MosaicCatalogue", "joinCount", "()I"⟩) ∈ js_ws := js_ws_of 882 (by decide +kernel) (by decide +kernel)
theorem kw_883 : (Jvm.Cond.instanceMethod ⟨"MosaicCatalogue", "joinCount", "()I"⟩) ∈ js_ws := js_ws_of 883 (by decide +kernel) (by decide +kernel)
theorem kw_884 : (Jvm.Cond.selects "MosaicCatalogue" ⟨"MosaicCatalogue", "joinCount", "()I"⟩ ⟨"MosaicCatalogue", "joinCount", "()I"⟩) ∈ js_ws := js_ws_of 884 (by decide +kernel) (by decide +kernel)
theorem kw_886 : (Jvm.Cond.methodLink "MosaicCatalogueLaw" 305 ⟨"MosaicCatalogue", "clashCount", "()I"⟩) ∈ js_ws := js_ws_of 886 (by decide +kernel) (by decide +kernel)
theorem kw_887 : (Jvm.Cond.instanceMethod ⟨"MosaicCatalogue", "clashCount", "()I"⟩) ∈ js_ws := js_ws_of 887 (by decide +kernel) (by decide +kernel)
theorem kw_888 : (Jvm.Cond.selects "MosaicCatalogue" ⟨"MosaicCatalogue", "clashCount", "()I"⟩ ⟨"MosaicCatalogue", "clashCount", "()I"⟩) ∈ js_ws := js_ws_of 888 (by decide +kernel) (by decide +kernel)
theorem kw_890 : (Jvm.Cond.methodLink "MosaicCatalogueLaw" 212 ⟨"MosaicCatalogueLaw", "guesses", "(LMosaicCatalogue;)Z"⟩) ∈ js_ws := js_ws_of 890 (by decide +kernel) (by decide +kernel)
theorem kw_891 : (Jvm.Cond.static ⟨"MosaicCatalogueLaw", "guesses", "(LMosaicCatalogue;)Z"⟩) ∈ js_ws := js_ws_of 891 (by decide +kernel) (by decide +kernel)
theorem kw_893 : (Jvm.Cond.methodLink "MosaicCatalogueLaw" 308 ⟨"MosaicCatalogueLaw", "bestGuess", "(LMosaicCatalogue;II)I"⟩) ∈ js_ws := js_ws_of 893 (by decide +kernel) (by decide +kernel)
theorem kw_894 : (Jvm.Cond.static ⟨"MosaicCatalogueLaw", "bestGuess", "(LMosaicCatalogue;II)I"⟩) ∈ js_ws := js_ws_of 894 (by decide +kernel) (by decide +kernel)
theorem kw_896 : (Jvm.Cond.methodLink "MosaicCatalogueLaw" 88 ⟨"MosaicCatalogue", "bestGuess", "(II)I"⟩) ∈ js_ws := js_ws_of 896 (by decide +kernel) (by decide +kernel)
theorem kw_897 : (Jvm.Cond.instanceMethod ⟨"MosaicCatalogue", "bestGuess", "(II)I"⟩) ∈ js_ws := js_ws_of 897 (by decide +kernel) (by decide +kernel)
theorem kw_898 : (Jvm.Cond.selects "MosaicCatalogue" ⟨"MosaicCatalogue", "bestGuess", "(II)I"⟩ ⟨"MosaicCatalogue", "bestGuess", "(II)I"⟩) ∈ js_ws := js_ws_of 898 (by decide +kernel) (by decide +kernel)
theorem kw_900 : (Jvm.Cond.methodLink "MosaicCatalogueLaw" 310 ⟨"MosaicCatalogueLaw", "byWeight", "(LMosaicCatalogue;III)I"⟩) ∈ js_ws := js_ws_of 900 (by decide +kernel) (by decide +kernel)
theorem kw_901 : (Jvm.Cond.static ⟨"MosaicCatalogueLaw", "byWeight", "(LMosaicCatalogue;III)I"⟩) ∈ js_ws := js_ws_of 901 (by decide +kernel) (by decide +kernel)
theorem kw_903 : (Jvm.Cond.methodLink "MosaicCatalogueLaw" 91 ⟨"MosaicCatalogue", "guessByWeight", "(III)I"⟩) ∈ js_ws := js_ws_of 903 (by decide +kernel) (by decide +kernel)
theorem kw_904 : (Jvm.Cond.instanceMethod ⟨"MosaicCatalogue", "guessByWeight", "(III)I"⟩) ∈ js_ws := js_ws_of 904 (by decide +kernel) (by decide +kernel)
theorem kw_905 : (Jvm.Cond.selects "MosaicCatalogue" ⟨"MosaicCatalogue", "guessByWeight", "(III)I"⟩ ⟨"MosaicCatalogue", "guessByWeight", "(III)I"⟩) ∈ js_ws := js_ws_of 905 (by decide +kernel) (by decide +kernel)
theorem kw_907 : (Jvm.Cond.methodLink "MosaicCatalogueLaw" 313 ⟨"MosaicCatalogueLaw", "isGuessed", "(LMosaicCatalogue;II)Z"⟩) ∈ js_ws := js_ws_of 907 (by decide +kernel) (by decide +kernel)
theorem kw_908 : (Jvm.Cond.static ⟨"MosaicCatalogueLaw", "isGuessed", "(LMosaicCatalogue;II)Z"⟩) ∈ js_ws := js_ws_of 908 (by decide +kernel) (by decide +kernel)
theorem kw_910 : (Jvm.Cond.methodLink "MosaicCatalogueLaw" 316 ⟨"MosaicCatalogueLaw", "weight", "(LMosaicCatalogue;IIII)I"⟩) ∈ js_ws := js_ws_of 910 (by decide +kernel) (by decide +kernel)
theorem kw_911 : (Jvm.Cond.static ⟨"MosaicCatalogueLaw", "weight", "(LMosaicCatalogue;IIII)I"⟩) ∈ js_ws := js_ws_of 911 (by decide +kernel) (by decide +kernel)
theorem kw_913 : (Jvm.Cond.methodLink "MosaicCatalogueLaw" 81 ⟨"MosaicCatalogue", "weight", "(IIII)I"⟩) ∈ js_ws := js_ws_of 913 (by decide +kernel) (by decide +kernel)
theorem kw_914 : (Jvm.Cond.instanceMethod ⟨"MosaicCatalogue", "weight", "(IIII)I"⟩) ∈ js_ws := js_ws_of 914 (by decide +kernel) (by decide +kernel)
theorem kw_915 : (Jvm.Cond.selects "MosaicCatalogue" ⟨"MosaicCatalogue", "weight", "(IIII)I"⟩ ⟨"MosaicCatalogue", "weight", "(IIII)I"⟩) ∈ js_ws := js_ws_of 915 (by decide +kernel) (by decide +kernel)
theorem kw_923 : (Jvm.Cond.methodLink "MosaicCatalogueLaw" 186 ⟨"MosaicCatalogueLaw", "worth", "(LMosaicCatalogue;IIII)I"⟩) ∈ js_ws := js_ws_of 923 (by decide +kernel) (by decide +kernel)
theorem kw_924 : (Jvm.Cond.static ⟨"MosaicCatalogueLaw", "worth", "(LMosaicCatalogue;IIII)I"⟩) ∈ js_ws := js_ws_of 924 (by decide +kernel) (by decide +kernel)
theorem kw_926 : (Jvm.Cond.methodLink "MosaicCatalogueLaw" 183 ⟨"MosaicCatalogueLaw", "turned", "(LMosaicCatalogue;III)I"⟩) ∈ js_ws := js_ws_of 926 (by decide +kernel) (by decide +kernel)
theorem kw_927 : (Jvm.Cond.static ⟨"MosaicCatalogueLaw", "turned", "(LMosaicCatalogue;III)I"⟩) ∈ js_ws := js_ws_of 927 (by decide +kernel) (by decide +kernel)
theorem kw_929 : (Jvm.Cond.methodLink "MosaicCatalogueLaw" 196 ⟨"MosaicCatalogueLaw", "worth", "(LMosaicCatalogue;III)I"⟩) ∈ js_ws := js_ws_of 929 (by decide +kernel) (by decide +kernel)
theorem kw_930 : (Jvm.Cond.static ⟨"MosaicCatalogueLaw", "worth", "(LMosaicCatalogue;III)I"⟩) ∈ js_ws := js_ws_of 930 (by decide +kernel) (by decide +kernel)
theorem kw_932 : (Jvm.Cond.methodLink "MosaicCatalogueLaw" 190 ⟨"MosaicCatalogueLaw", "turnFor", "(LMosaicCatalogue;III)I"⟩) ∈ js_ws := js_ws_of 932 (by decide +kernel) (by decide +kernel)
theorem kw_933 : (Jvm.Cond.static ⟨"MosaicCatalogueLaw", "turnFor", "(LMosaicCatalogue;III)I"⟩) ∈ js_ws := js_ws_of 933 (by decide +kernel) (by decide +kernel)
theorem kw_935 : (Jvm.Cond.methodLink "MosaicCatalogueLaw" 318 ⟨"MosaicCatalogueLaw", "bestTurn", "(LMosaicCatalogue;III)I"⟩) ∈ js_ws := js_ws_of 935 (by decide +kernel) (by decide +kernel)
theorem kw_936 : (Jvm.Cond.static ⟨"MosaicCatalogueLaw", "bestTurn", "(LMosaicCatalogue;III)I"⟩) ∈ js_ws := js_ws_of 936 (by decide +kernel) (by decide +kernel)
theorem kw_938 : (Jvm.Cond.methodLink "MosaicCatalogueLaw" 85 ⟨"MosaicCatalogue", "bestTurn", "(III)I"⟩) ∈ js_ws := js_ws_of 938 (by decide +kernel) (by decide +kernel)
theorem kw_939 : (Jvm.Cond.instanceMethod ⟨"MosaicCatalogue", "bestTurn", "(III)I"⟩) ∈ js_ws := js_ws_of 939 (by decide +kernel) (by decide +kernel)
theorem kw_940 : (Jvm.Cond.selects "MosaicCatalogue" ⟨"MosaicCatalogue", "bestTurn", "(III)I"⟩ ⟨"MosaicCatalogue", "bestTurn", "(III)I"⟩) ∈ js_ws := js_ws_of 940 (by decide +kernel) (by decide +kernel)
theorem kw_943 : (Jvm.Cond.methodLink "MosaicCatalogueLaw" 320 ⟨"MosaicCatalogueLaw", "guess", "(LMosaicCatalogue;II)I"⟩) ∈ js_ws := js_ws_of 943 (by decide +kernel) (by decide +kernel)
theorem kw_944 : (Jvm.Cond.static ⟨"MosaicCatalogueLaw", "guess", "(LMosaicCatalogue;II)I"⟩) ∈ js_ws := js_ws_of 944 (by decide +kernel) (by decide +kernel)
theorem kw_946 : (Jvm.Cond.methodLink "MosaicCatalogueLaw" 215 ⟨"MosaicCatalogueLaw", "groups", "(LMosaicCatalogue;)Z"⟩) ∈ js_ws := js_ws_of 946 (by decide +kernel) (by decide +kernel)
theorem kw_947 : (Jvm.Cond.static ⟨"MosaicCatalogueLaw", "groups", "(LMosaicCatalogue;)Z"⟩) ∈ js_ws := js_ws_of 947 (by decide +kernel) (by decide +kernel)
theorem kw_949 : (Jvm.Cond.methodLink "MosaicCatalogueLaw" 323 ⟨"MosaicCatalogueLaw", "grown", "(LMosaicCatalogue;J)J"⟩) ∈ js_ws := js_ws_of 949 (by decide +kernel) (by decide +kernel)
theorem kw_950 : (Jvm.Cond.static ⟨"MosaicCatalogueLaw", "grown", "(LMosaicCatalogue;J)J"⟩) ∈ js_ws := js_ws_of 950 (by decide +kernel) (by decide +kernel)
theorem kw_952 : (Jvm.Cond.methodLink "MosaicCatalogueLaw" 327 ⟨"java/lang/Long", "bitCount", "(J)I"⟩) ∈ js_ws := js_ws_of 952 (by decide +kernel) (by decide +kernel)
theorem kw_953 : (Jvm.Cond.methodLink "MosaicCatalogueLaw" 333 ⟨"java/lang/Math", "max", "(II)I"⟩) ∈ js_ws := js_ws_of 953 (by decide +kernel) (by decide +kernel)
theorem kw_954 : (Jvm.Cond.methodLink "MosaicCatalogueLaw" 338 ⟨"MosaicCatalogue", "groupCount", "()I"⟩) ∈ js_ws := js_ws_of 954 (by decide +kernel) (by decide +kernel)
theorem kw_964 : (Jvm.Cond.methodLink "MosaicCatalogueLaw" 341 ⟨"MosaicCatalogue", "groupCountByUnions", "()I"⟩) ∈ js_ws := js_ws_of 964 (by decide +kernel) (by decide +kernel)
theorem kw_981 : (Jvm.Cond.methodLink "MosaicCatalogueLaw" 344 ⟨"MosaicCatalogueLaw", "largest", "(LMosaicCatalogue;)I"⟩) ∈ js_ws := js_ws_of 981 (by decide +kernel) (by decide +kernel)
theorem kw_982 : (Jvm.Cond.static ⟨"MosaicCatalogueLaw", "largest", "(LMosaicCatalogue;)I"⟩) ∈ js_ws := js_ws_of 982 (by decide +kernel) (by decide +kernel)
theorem kw_984 : (Jvm.Cond.methodLink "MosaicCatalogueLaw" 97 ⟨"MosaicCatalogue", "largestGroup", "()I"⟩) ∈ js_ws := js_ws_of 984 (by decide +kernel) (by decide +kernel)
theorem kw_985 : (Jvm.Cond.instanceMethod ⟨"MosaicCatalogue", "largestGroup", "()I"⟩) ∈ js_ws := js_ws_of 985 (by decide +kernel) (by decide +kernel)
theorem kw_986 : (Jvm.Cond.selects "MosaicCatalogue" ⟨"MosaicCatalogue", "largestGroup", "()I"⟩ ⟨"MosaicCatalogue", "largestGroup", "()I"⟩) ∈ js_ws := js_ws_of 986 (by decide +kernel) (by decide +kernel)
theorem kw_994 : (Jvm.Cond.methodLink "MosaicCatalogueLaw" 347 ⟨"MosaicCatalogue", "isConsistent", "()Z"⟩) ∈ js_ws := js_ws_of 994 (by decide +kernel) (by decide +kernel)
theorem kw_995 : (Jvm.Cond.instanceMethod ⟨"MosaicCatalogue", "isConsistent", "()Z"⟩) ∈ js_ws := js_ws_of 995 (by decide +kernel) (by decide +kernel)
theorem kw_996 : (Jvm.Cond.selects "MosaicCatalogue" ⟨"MosaicCatalogue", "isConsistent", "()Z"⟩ ⟨"MosaicCatalogue", "isConsistent", "()Z"⟩) ∈ js_ws := js_ws_of 996 (by decide +kernel) (by decide +kernel)
theorem kw_1001 : (Jvm.Cond.methodLink "MosaicCatalogueLaw" 218 ⟨"MosaicCatalogueLaw", "texts", "(LMosaicCatalogue;)Z"⟩) ∈ js_ws := js_ws_of 1001 (by decide +kernel) (by decide +kernel)
theorem kw_1002 : (Jvm.Cond.static ⟨"MosaicCatalogueLaw", "texts", "(LMosaicCatalogue;)Z"⟩) ∈ js_ws := js_ws_of 1002 (by decide +kernel) (by decide +kernel)
theorem kw_1005 : (Jvm.Cond.classLink "MosaicCatalogueLaw" 356 "java/lang/StringBuilder") ∈ js_ws := js_ws_of 1005 (by decide +kernel) (by decide +kernel)
theorem kw_1006 : (Jvm.Cond.instantiable "java/lang/StringBuilder" 4) ∈ js_ws := js_ws_of 1006 (by decide +kernel) (by decide +kernel)
theorem kw_1007 : (Jvm.Cond.methodLink "MosaicCatalogueLaw" 358 ⟨"java/lang/StringBuilder", "<init>", "()V"⟩) ∈ js_ws := js_ws_of 1007 (by decide +kernel) (by decide +kernel)
theorem kw_1008 : (Jvm.Cond.instanceMethod ⟨"java/lang/StringBuilder", "<init>", "()V"⟩) ∈ js_ws := js_ws_of 1008 (by decide +kernel) (by decide +kernel)
theorem kw_1036 : (Jvm.Cond.methodLink "MosaicCatalogueLaw" 359 ⟨"java/lang/StringBuilder", "append", "(Ljava/lang/String;)Ljava/lang/StringBuilder;"⟩) ∈ js_ws := js_ws_of 1036 (by decide +kernel) (by decide +kernel)
theorem kw_1037 : (Jvm.Cond.instanceMethod ⟨"java/lang/StringBuilder", "append", "(Ljava/lang/String;)Ljava/lang/StringBuilder;"⟩) ∈ js_ws := js_ws_of 1037 (by decide +kernel) (by decide +kernel)
theorem kw_1038 : (Jvm.Cond.selects "java/lang/StringBuilder" ⟨"java/lang/StringBuilder", "append", "(Ljava/lang/String;)Ljava/lang/StringBuilder;"⟩ ⟨"java/lang/StringBuilder", "append", "(Ljava/lang/String;)Ljava/lang/StringBuilder;"⟩) ∈ js_ws := js_ws_of 1038 (by decide +kernel) (by decide +kernel)
theorem kw_1150 : (Jvm.Cond.methodLink "MosaicCatalogueLaw" 363 ⟨"java/lang/StringBuilder", "append", "(C)Ljava/lang/StringBuilder;"⟩) ∈ js_ws := js_ws_of 1150 (by decide +kernel) (by decide +kernel)
theorem kw_1151 : (Jvm.Cond.instanceMethod ⟨"java/lang/StringBuilder", "append", "(C)Ljava/lang/StringBuilder;"⟩) ∈ js_ws := js_ws_of 1151 (by decide +kernel) (by decide +kernel)
theorem kw_1152 : (Jvm.Cond.selects "java/lang/StringBuilder" ⟨"java/lang/StringBuilder", "append", "(C)Ljava/lang/StringBuilder;"⟩ ⟨"java/lang/StringBuilder", "append", "(C)Ljava/lang/StringBuilder;"⟩) ∈ js_ws := js_ws_of 1152 (by decide +kernel) (by decide +kernel)
theorem kw_1172 : (Jvm.Cond.methodLink "MosaicCatalogueLaw" 366 ⟨"java/lang/StringBuilder", "toString", "()Ljava/lang/String;"⟩) ∈ js_ws := js_ws_of 1172 (by decide +kernel) (by decide +kernel)
theorem kw_1173 : (Jvm.Cond.instanceMethod ⟨"java/lang/StringBuilder", "toString", "()Ljava/lang/String;"⟩) ∈ js_ws := js_ws_of 1173 (by decide +kernel) (by decide +kernel)
theorem kw_1174 : (Jvm.Cond.selects "java/lang/StringBuilder" ⟨"java/lang/StringBuilder", "toString", "()Ljava/lang/String;"⟩ ⟨"java/lang/StringBuilder", "toString", "()Ljava/lang/String;"⟩) ∈ js_ws := js_ws_of 1174 (by decide +kernel) (by decide +kernel)
theorem kw_1211 : (Jvm.Cond.instanceMethod ⟨"java/lang/StringBuilder", "append", "(I)Ljava/lang/StringBuilder;"⟩) ∈ js_ws := js_ws_of 1211 (by decide +kernel) (by decide +kernel)
theorem kw_1212 : (Jvm.Cond.selects "java/lang/StringBuilder" ⟨"java/lang/StringBuilder", "append", "(I)Ljava/lang/StringBuilder;"⟩ ⟨"java/lang/StringBuilder", "append", "(I)Ljava/lang/StringBuilder;"⟩) ∈ js_ws := js_ws_of 1212 (by decide +kernel) (by decide +kernel)
theorem kw_1259 : (Jvm.Cond.methodLink "MosaicCatalogueLaw" 370 ⟨"MosaicCatalogueLaw", "writeRow", "(LMosaicCatalogue;I)I"⟩) ∈ js_ws := js_ws_of 1259 (by decide +kernel) (by decide +kernel)
theorem kw_1260 : (Jvm.Cond.static ⟨"MosaicCatalogueLaw", "writeRow", "(LMosaicCatalogue;I)I"⟩) ∈ js_ws := js_ws_of 1260 (by decide +kernel) (by decide +kernel)
theorem kw_1262 : (Jvm.Cond.methodLink "MosaicCatalogueLaw" 101 ⟨"MosaicCatalogue", "writeRow", "(I)I"⟩) ∈ js_ws := js_ws_of 1262 (by decide +kernel) (by decide +kernel)
theorem kw_1263 : (Jvm.Cond.instanceMethod ⟨"MosaicCatalogue", "writeRow", "(I)I"⟩) ∈ js_ws := js_ws_of 1263 (by decide +kernel) (by decide +kernel)
theorem kw_1264 : (Jvm.Cond.selects "MosaicCatalogue" ⟨"MosaicCatalogue", "writeRow", "(I)I"⟩ ⟨"MosaicCatalogue", "writeRow", "(I)I"⟩) ∈ js_ws := js_ws_of 1264 (by decide +kernel) (by decide +kernel)
theorem kw_1270 : (Jvm.Cond.methodLink "MosaicCatalogueLaw" 372 ⟨"MosaicCatalogueLaw", "spells", "(LMosaicCatalogue;ILjava/lang/String;)Z"⟩) ∈ js_ws := js_ws_of 1270 (by decide +kernel) (by decide +kernel)
theorem kw_1271 : (Jvm.Cond.static ⟨"MosaicCatalogueLaw", "spells", "(LMosaicCatalogue;ILjava/lang/String;)Z"⟩) ∈ js_ws := js_ws_of 1271 (by decide +kernel) (by decide +kernel)
theorem kw_1273 : (Jvm.Cond.methodLink "MosaicCatalogueLaw" 136 ⟨"java/lang/String", "length", "()I"⟩) ∈ js_ws := js_ws_of 1273 (by decide +kernel) (by decide +kernel)
theorem kw_1274 : (Jvm.Cond.methodLink "MosaicCatalogueLaw" 351 ⟨"MosaicCatalogueLaw", "outputAt", "(LMosaicCatalogue;I)I"⟩) ∈ js_ws := js_ws_of 1274 (by decide +kernel) (by decide +kernel)
theorem kw_1275 : (Jvm.Cond.static ⟨"MosaicCatalogueLaw", "outputAt", "(LMosaicCatalogue;I)I"⟩) ∈ js_ws := js_ws_of 1275 (by decide +kernel) (by decide +kernel)
theorem kw_1277 : (Jvm.Cond.methodLink "MosaicCatalogueLaw" 107 ⟨"MosaicCatalogue", "outputCharacter", "(I)C"⟩) ∈ js_ws := js_ws_of 1277 (by decide +kernel) (by decide +kernel)
theorem kw_1278 : (Jvm.Cond.instanceMethod ⟨"MosaicCatalogue", "outputCharacter", "(I)C"⟩) ∈ js_ws := js_ws_of 1278 (by decide +kernel) (by decide +kernel)
theorem kw_1279 : (Jvm.Cond.selects "MosaicCatalogue" ⟨"MosaicCatalogue", "outputCharacter", "(I)C"⟩ ⟨"MosaicCatalogue", "outputCharacter", "(I)C"⟩) ∈ js_ws := js_ws_of 1279 (by decide +kernel) (by decide +kernel)
theorem kw_1282 : (Jvm.Cond.methodLink "MosaicCatalogueLaw" 141 ⟨"java/lang/String", "charAt", "(I)C"⟩) ∈ js_ws := js_ws_of 1282 (by decide +kernel) (by decide +kernel)
theorem kw_1298 : (Jvm.Cond.methodLink "MosaicCatalogueLaw" 378 ⟨"MosaicCatalogueLaw", "write", "(LMosaicCatalogue;I)I"⟩) ∈ js_ws := js_ws_of 1298 (by decide +kernel) (by decide +kernel)
theorem kw_1299 : (Jvm.Cond.static ⟨"MosaicCatalogueLaw", "write", "(LMosaicCatalogue;I)I"⟩) ∈ js_ws := js_ws_of 1299 (by decide +kernel) (by decide +kernel)
theorem kw_1301 : (Jvm.Cond.methodLink "MosaicCatalogueLaw" 104 ⟨"MosaicCatalogue", "writeFragment", "(I)I"⟩) ∈ js_ws := js_ws_of 1301 (by decide +kernel) (by decide +kernel)
theorem kw_1302 : (Jvm.Cond.instanceMethod ⟨"MosaicCatalogue", "writeFragment", "(I)I"⟩) ∈ js_ws := js_ws_of 1302 (by decide +kernel) (by decide +kernel)
theorem kw_1303 : (Jvm.Cond.selects "MosaicCatalogue" ⟨"MosaicCatalogue", "writeFragment", "(I)I"⟩ ⟨"MosaicCatalogue", "writeFragment", "(I)I"⟩) ∈ js_ws := js_ws_of 1303 (by decide +kernel) (by decide +kernel)
theorem kw_1309 : (Jvm.Cond.methodLink "MosaicCatalogueLaw" 383 ⟨"java/lang/StringBuilder", "append", "(I)Ljava/lang/StringBuilder;"⟩) ∈ js_ws := js_ws_of 1309 (by decide +kernel) (by decide +kernel)
theorem kw_1310 : (Jvm.Cond.methodLink "MosaicCatalogueLaw" 221 ⟨"MosaicCatalogueLaw", "undone", "([ILMosaicCatalogue;)Z"⟩) ∈ js_ws := js_ws_of 1310 (by decide +kernel) (by decide +kernel)
theorem kw_1311 : (Jvm.Cond.static ⟨"MosaicCatalogueLaw", "undone", "([ILMosaicCatalogue;)Z"⟩) ∈ js_ws := js_ws_of 1311 (by decide +kernel) (by decide +kernel)
theorem kw_1313 : (Jvm.Cond.methodLink "MosaicCatalogueLaw" 394 ⟨"MosaicCatalogueLaw", "sum", "(LMosaicCatalogue;)J"⟩) ∈ js_ws := js_ws_of 1313 (by decide +kernel) (by decide +kernel)
theorem kw_1314 : (Jvm.Cond.static ⟨"MosaicCatalogueLaw", "sum", "(LMosaicCatalogue;)J"⟩) ∈ js_ws := js_ws_of 1314 (by decide +kernel) (by decide +kernel)
theorem kw_1316 : (Jvm.Cond.constantLong "MosaicCatalogueLaw" 386 31) ∈ js_ws := js_ws_of 1316 (by decide +kernel) (by decide +kernel)
theorem kw_1317 : (Jvm.Cond.constantLong "MosaicCatalogueLaw" 388 37) ∈ js_ws := js_ws_of 1317 (by decide +kernel) (by decide +kernel)
theorem kw_1318 : (Jvm.Cond.constantLong "MosaicCatalogueLaw" 390 41) ∈ js_ws := js_ws_of 1318 (by decide +kernel) (by decide +kernel)
theorem kw_1319 : (Jvm.Cond.constantLong "MosaicCatalogueLaw" 392 17) ∈ js_ws := js_ws_of 1319 (by decide +kernel) (by decide +kernel)
theorem kw_1320 : (Jvm.Cond.methodLink "MosaicCatalogueLaw" 398 ⟨"MosaicCatalogueLaw", "remove", "(LMosaicCatalogue;I)I"⟩) ∈ js_ws := js_ws_of 1320 (by decide +kernel) (by decide +kernel)
theorem kw_1321 : (Jvm.Cond.static ⟨"MosaicCatalogueLaw", "remove", "(LMosaicCatalogue;I)I"⟩) ∈ js_ws := js_ws_of 1321 (by decide +kernel) (by decide +kernel)
theorem kw_1323 : (Jvm.Cond.methodLink "MosaicCatalogueLaw" 18 ⟨"MosaicCatalogue", "removeFragment", "(I)I"⟩) ∈ js_ws := js_ws_of 1323 (by decide +kernel) (by decide +kernel)
theorem kw_1324 : (Jvm.Cond.instanceMethod ⟨"MosaicCatalogue", "removeFragment", "(I)I"⟩) ∈ js_ws := js_ws_of 1324 (by decide +kernel) (by decide +kernel)
theorem kw_1325 : (Jvm.Cond.selects "MosaicCatalogue" ⟨"MosaicCatalogue", "removeFragment", "(I)I"⟩ ⟨"MosaicCatalogue", "removeFragment", "(I)I"⟩) ∈ js_ws := js_ws_of 1325 (by decide +kernel) (by decide +kernel)
theorem kw_1331 : (Jvm.Cond.methodLink "MosaicCatalogueLaw" 401 ⟨"MosaicCatalogueLaw", "swap", "(LMosaicCatalogue;II)I"⟩) ∈ js_ws := js_ws_of 1331 (by decide +kernel) (by decide +kernel)
theorem kw_1332 : (Jvm.Cond.static ⟨"MosaicCatalogueLaw", "swap", "(LMosaicCatalogue;II)I"⟩) ∈ js_ws := js_ws_of 1332 (by decide +kernel) (by decide +kernel)
theorem kw_1334 : (Jvm.Cond.methodLink "MosaicCatalogueLaw" 57 ⟨"MosaicCatalogue", "swap", "(II)I"⟩) ∈ js_ws := js_ws_of 1334 (by decide +kernel) (by decide +kernel)
theorem kw_1335 : (Jvm.Cond.instanceMethod ⟨"MosaicCatalogue", "swap", "(II)I"⟩) ∈ js_ws := js_ws_of 1335 (by decide +kernel) (by decide +kernel)
theorem kw_1336 : (Jvm.Cond.selects "MosaicCatalogue" ⟨"MosaicCatalogue", "swap", "(II)I"⟩ ⟨"MosaicCatalogue", "swap", "(II)I"⟩) ∈ js_ws := js_ws_of 1336 (by decide +kernel) (by decide +kernel)
theorem kw_1343 : (Jvm.Cond.methodLink "MosaicCatalogueLaw" 403 ⟨"MosaicCatalogue", "fill", "()I"⟩) ∈ js_ws := js_ws_of 1343 (by decide +kernel) (by decide +kernel)
theorem kw_1344 : (Jvm.Cond.instanceMethod ⟨"MosaicCatalogue", "fill", "()I"⟩) ∈ js_ws := js_ws_of 1344 (by decide +kernel) (by decide +kernel)
theorem kw_1345 : (Jvm.Cond.selects "MosaicCatalogue" ⟨"MosaicCatalogue", "fill", "()I"⟩ ⟨"MosaicCatalogue", "fill", "()I"⟩) ∈ js_ws := js_ws_of 1345 (by decide +kernel) (by decide +kernel)
theorem kw_1367 : (Jvm.Cond.methodLink "MosaicCatalogueLaw" 414 ⟨"MosaicCatalogueLaw", "execute", "(LMosaicCatalogue;Ljava/lang/String;)I"⟩) ∈ js_ws := js_ws_of 1367 (by decide +kernel) (by decide +kernel)
theorem kw_1368 : (Jvm.Cond.static ⟨"MosaicCatalogueLaw", "execute", "(LMosaicCatalogue;Ljava/lang/String;)I"⟩) ∈ js_ws := js_ws_of 1368 (by decide +kernel) (by decide +kernel)
theorem kw_1370 : (Jvm.Cond.methodLink "MosaicCatalogueLaw" 144 ⟨"MosaicCatalogueLaw", "feed", "(LMosaicCatalogue;C)I"⟩) ∈ js_ws := js_ws_of 1370 (by decide +kernel) (by decide +kernel)
theorem kw_1371 : (Jvm.Cond.static ⟨"MosaicCatalogueLaw", "feed", "(LMosaicCatalogue;C)I"⟩) ∈ js_ws := js_ws_of 1371 (by decide +kernel) (by decide +kernel)
theorem kw_1373 : (Jvm.Cond.methodLink "MosaicCatalogueLaw" 110 ⟨"MosaicCatalogue", "feed", "(C)I"⟩) ∈ js_ws := js_ws_of 1373 (by decide +kernel) (by decide +kernel)
theorem kw_1374 : (Jvm.Cond.instanceMethod ⟨"MosaicCatalogue", "feed", "(C)I"⟩) ∈ js_ws := js_ws_of 1374 (by decide +kernel) (by decide +kernel)
theorem kw_1375 : (Jvm.Cond.selects "MosaicCatalogue" ⟨"MosaicCatalogue", "feed", "(C)I"⟩ ⟨"MosaicCatalogue", "feed", "(C)I"⟩) ∈ js_ws := js_ws_of 1375 (by decide +kernel) (by decide +kernel)
theorem kw_1386 : (Jvm.Cond.methodLink "MosaicCatalogueLaw" 149 ⟨"MosaicCatalogueLaw", "executes", "(LMosaicCatalogue;)I"⟩) ∈ js_ws := js_ws_of 1386 (by decide +kernel) (by decide +kernel)
theorem kw_1387 : (Jvm.Cond.static ⟨"MosaicCatalogueLaw", "executes", "(LMosaicCatalogue;)I"⟩) ∈ js_ws := js_ws_of 1387 (by decide +kernel) (by decide +kernel)
theorem kw_1389 : (Jvm.Cond.methodLink "MosaicCatalogueLaw" 114 ⟨"MosaicCatalogue", "execute", "()I"⟩) ∈ js_ws := js_ws_of 1389 (by decide +kernel) (by decide +kernel)
theorem kw_1390 : (Jvm.Cond.instanceMethod ⟨"MosaicCatalogue", "execute", "()I"⟩) ∈ js_ws := js_ws_of 1390 (by decide +kernel) (by decide +kernel)
theorem kw_1391 : (Jvm.Cond.selects "MosaicCatalogue" ⟨"MosaicCatalogue", "execute", "()I"⟩ ⟨"MosaicCatalogue", "execute", "()I"⟩) ∈ js_ws := js_ws_of 1391 (by decide +kernel) (by decide +kernel)
theorem kw_1449 : (Jvm.Cond.methodLink "MosaicCatalogueLaw" 417 ⟨"MosaicCatalogue", "undoCount", "()I"⟩) ∈ js_ws := js_ws_of 1449 (by decide +kernel) (by decide +kernel)
theorem kw_1450 : (Jvm.Cond.instanceMethod ⟨"MosaicCatalogue", "undoCount", "()I"⟩) ∈ js_ws := js_ws_of 1450 (by decide +kernel) (by decide +kernel)
theorem kw_1451 : (Jvm.Cond.selects "MosaicCatalogue" ⟨"MosaicCatalogue", "undoCount", "()I"⟩ ⟨"MosaicCatalogue", "undoCount", "()I"⟩) ∈ js_ws := js_ws_of 1451 (by decide +kernel) (by decide +kernel)
theorem kw_1453 : (Jvm.Cond.methodLink "MosaicCatalogueLaw" 420 ⟨"MosaicCatalogueLaw", "undo", "(LMosaicCatalogue;)I"⟩) ∈ js_ws := js_ws_of 1453 (by decide +kernel) (by decide +kernel)
theorem kw_1454 : (Jvm.Cond.static ⟨"MosaicCatalogueLaw", "undo", "(LMosaicCatalogue;)I"⟩) ∈ js_ws := js_ws_of 1454 (by decide +kernel) (by decide +kernel)
theorem kw_1456 : (Jvm.Cond.methodLink "MosaicCatalogueLaw" 123 ⟨"MosaicCatalogue", "undo", "()I"⟩) ∈ js_ws := js_ws_of 1456 (by decide +kernel) (by decide +kernel)
theorem kw_1457 : (Jvm.Cond.instanceMethod ⟨"MosaicCatalogue", "undo", "()I"⟩) ∈ js_ws := js_ws_of 1457 (by decide +kernel) (by decide +kernel)
theorem kw_1458 : (Jvm.Cond.selects "MosaicCatalogue" ⟨"MosaicCatalogue", "undo", "()I"⟩ ⟨"MosaicCatalogue", "undo", "()I"⟩) ∈ js_ws := js_ws_of 1458 (by decide +kernel) (by decide +kernel)
theorem kn_321 : (Jvm.Cond.castable "java/util/NoSuchElementException" "java/util/NoSuchElementException") ∈ lw_tbl := List.mem_of_getElem? (i := 321) (by decide +kernel)
theorem kn_393 : (Jvm.Cond.castable "java/lang/IndexOutOfBoundsException" "java/lang/IndexOutOfBoundsException") ∈ lw_tbl := List.mem_of_getElem? (i := 393) (by decide +kernel)
theorem kn_409 : (Jvm.Cond.castable "java/lang/IllegalArgumentException" "java/lang/IllegalArgumentException") ∈ lw_tbl := List.mem_of_getElem? (i := 409) (by decide +kernel)
theorem kn_425 : (Jvm.Cond.castable "java/lang/IllegalStateException" "java/lang/IllegalStateException") ∈ lw_tbl := List.mem_of_getElem? (i := 425) (by decide +kernel)
theorem kn_525 : (Jvm.Cond.castable "java/lang/UnsupportedOperationException" "java/lang/UnsupportedOperationException") ∈ lw_tbl := List.mem_of_getElem? (i := 525) (by decide +kernel)
theorem kc_59 : js_code 59 ∈ js_ws := js_ws_of 64 (by decide +kernel) (by decide +kernel)
theorem kc_60 : js_code 60 ∈ js_ws := js_ws_of 278 (by decide +kernel) (by decide +kernel)
theorem kc_61 : js_code 61 ∈ js_ws := js_ws_of 1326 (by decide +kernel) (by decide +kernel)
theorem kc_62 : js_code 62 ∈ js_ws := js_ws_of 749 (by decide +kernel) (by decide +kernel)
theorem kc_63 : js_code 63 ∈ js_ws := js_ws_of 753 (by decide +kernel) (by decide +kernel)
theorem kc_64 : js_code 64 ∈ js_ws := js_ws_of 673 (by decide +kernel) (by decide +kernel)
theorem kc_65 : js_code 65 ∈ js_ws := js_ws_of 627 (by decide +kernel) (by decide +kernel)
theorem kc_66 : js_code 66 ∈ js_ws := js_ws_of 635 (by decide +kernel) (by decide +kernel)
theorem kc_67 : js_code 67 ∈ js_ws := js_ws_of 646 (by decide +kernel) (by decide +kernel)
theorem kc_68 : js_code 68 ∈ js_ws := js_ws_of 661 (by decide +kernel) (by decide +kernel)
theorem kc_69 : js_code 69 ∈ js_ws := js_ws_of 653 (by decide +kernel) (by decide +kernel)
theorem kc_70 : js_code 70 ∈ js_ws := js_ws_of 685 (by decide +kernel) (by decide +kernel)
theorem kc_71 : js_code 71 ∈ js_ws := js_ws_of 761 (by decide +kernel) (by decide +kernel)
theorem kc_72 : js_code 72 ∈ js_ws := js_ws_of 594 (by decide +kernel) (by decide +kernel)
theorem kc_73 : js_code 73 ∈ js_ws := js_ws_of 616 (by decide +kernel) (by decide +kernel)
theorem kc_74 : js_code 74 ∈ js_ws := js_ws_of 453 (by decide +kernel) (by decide +kernel)
theorem kc_75 : js_code 75 ∈ js_ws := js_ws_of 1337 (by decide +kernel) (by decide +kernel)
theorem kc_76 : js_code 76 ∈ js_ws := js_ws_of 494 (by decide +kernel) (by decide +kernel)
theorem kc_77 : js_code 77 ∈ js_ws := js_ws_of 1346 (by decide +kernel) (by decide +kernel)
theorem kc_78 : js_code 78 ∈ js_ws := js_ws_of 784 (by decide +kernel) (by decide +kernel)
theorem kc_79 : js_code 79 ∈ js_ws := js_ws_of 744 (by decide +kernel) (by decide +kernel)
theorem kc_81 : js_code 81 ∈ js_ws := js_ws_of 805 (by decide +kernel) (by decide +kernel)
theorem kc_84 : js_code 84 ∈ js_ws := js_ws_of 880 (by decide +kernel) (by decide +kernel)
theorem kc_85 : js_code 85 ∈ js_ws := js_ws_of 885 (by decide +kernel) (by decide +kernel)
theorem kc_86 : js_code 86 ∈ js_ws := js_ws_of 889 (by decide +kernel) (by decide +kernel)
theorem kc_87 : js_code 87 ∈ js_ws := js_ws_of 697 (by decide +kernel) (by decide +kernel)
theorem kc_88 : js_code 88 ∈ js_ws := js_ws_of 705 (by decide +kernel) (by decide +kernel)
theorem kc_89 : js_code 89 ∈ js_ws := js_ws_of 797 (by decide +kernel) (by decide +kernel)
theorem kc_90 : js_code 90 ∈ js_ws := js_ws_of 916 (by decide +kernel) (by decide +kernel)
theorem kc_91 : js_code 91 ∈ js_ws := js_ws_of 941 (by decide +kernel) (by decide +kernel)
theorem kc_92 : js_code 92 ∈ js_ws := js_ws_of 899 (by decide +kernel) (by decide +kernel)
theorem kc_93 : js_code 93 ∈ js_ws := js_ws_of 906 (by decide +kernel) (by decide +kernel)
theorem kc_96 : js_code 96 ∈ js_ws := js_ws_of 713 (by decide +kernel) (by decide +kernel)
theorem kc_98 : js_code 98 ∈ js_ws := js_ws_of 987 (by decide +kernel) (by decide +kernel)
theorem kc_100 : js_code 100 ∈ js_ws := js_ws_of 840 (by decide +kernel) (by decide +kernel)
theorem kc_101 : js_code 101 ∈ js_ws := js_ws_of 859 (by decide +kernel) (by decide +kernel)
theorem kc_102 : js_code 102 ∈ js_ws := js_ws_of 997 (by decide +kernel) (by decide +kernel)
theorem kc_103 : js_code 103 ∈ js_ws := js_ws_of 1265 (by decide +kernel) (by decide +kernel)
theorem kc_104 : js_code 104 ∈ js_ws := js_ws_of 1304 (by decide +kernel) (by decide +kernel)
theorem kc_105 : js_code 105 ∈ js_ws := js_ws_of 1280 (by decide +kernel) (by decide +kernel)
theorem kc_106 : js_code 106 ∈ js_ws := js_ws_of 1376 (by decide +kernel) (by decide +kernel)
theorem kc_107 : js_code 107 ∈ js_ws := js_ws_of 1392 (by decide +kernel) (by decide +kernel)
theorem kc_110 : js_code 110 ∈ js_ws := js_ws_of 1459 (by decide +kernel) (by decide +kernel)
theorem kc_111 : js_code 111 ∈ js_ws := js_ws_of 1452 (by decide +kernel) (by decide +kernel)
theorem kc_243 : js_code 243 ∈ js_ws := js_ws_of 848 (by decide +kernel) (by decide +kernel)
theorem kc_255 : js_code 255 ∈ js_ws := js_ws_of 1009 (by decide +kernel) (by decide +kernel)
theorem kc_257 : js_code 257 ∈ js_ws := js_ws_of 1039 (by decide +kernel) (by decide +kernel)
theorem kc_258 : js_code 258 ∈ js_ws := js_ws_of 1153 (by decide +kernel) (by decide +kernel)
theorem kc_259 : js_code 259 ∈ js_ws := js_ws_of 1213 (by decide +kernel) (by decide +kernel)
theorem kc_260 : js_code 260 ∈ js_ws := js_ws_of 1175 (by decide +kernel) (by decide +kernel)
theorem kl_59_0 : ((js_y 59).cls ≠ "java/lang/invoke/MethodHandle" ∧ (js_y 59).cls ≠ "java/lang/invoke/VarHandle" ∧ (parseMethodDescriptor (js_y 59).desc).map (fun d => d.parameters.length) = some 0) := by decide +kernel
theorem kl_60_5 : ((js_y 60).cls ≠ "java/lang/invoke/MethodHandle" ∧ (js_y 60).cls ≠ "java/lang/invoke/VarHandle" ∧ (parseMethodDescriptor (js_y 60).desc).map (fun d => d.parameters.length) = some 5) := by decide +kernel
theorem kl_61_1 : ((js_y 61).cls ≠ "java/lang/invoke/MethodHandle" ∧ (js_y 61).cls ≠ "java/lang/invoke/VarHandle" ∧ (parseMethodDescriptor (js_y 61).desc).map (fun d => d.parameters.length) = some 1) := by decide +kernel
theorem kl_62_0 : ((js_y 62).cls ≠ "java/lang/invoke/MethodHandle" ∧ (js_y 62).cls ≠ "java/lang/invoke/VarHandle" ∧ (parseMethodDescriptor (js_y 62).desc).map (fun d => d.parameters.length) = some 0) := by decide +kernel
theorem kl_63_0 : ((js_y 63).cls ≠ "java/lang/invoke/MethodHandle" ∧ (js_y 63).cls ≠ "java/lang/invoke/VarHandle" ∧ (parseMethodDescriptor (js_y 63).desc).map (fun d => d.parameters.length) = some 0) := by decide +kernel
theorem kl_64_1 : ((js_y 64).cls ≠ "java/lang/invoke/MethodHandle" ∧ (js_y 64).cls ≠ "java/lang/invoke/VarHandle" ∧ (parseMethodDescriptor (js_y 64).desc).map (fun d => d.parameters.length) = some 1) := by decide +kernel
theorem kl_65_1 : ((js_y 65).cls ≠ "java/lang/invoke/MethodHandle" ∧ (js_y 65).cls ≠ "java/lang/invoke/VarHandle" ∧ (parseMethodDescriptor (js_y 65).desc).map (fun d => d.parameters.length) = some 1) := by decide +kernel
theorem kl_66_1 : ((js_y 66).cls ≠ "java/lang/invoke/MethodHandle" ∧ (js_y 66).cls ≠ "java/lang/invoke/VarHandle" ∧ (parseMethodDescriptor (js_y 66).desc).map (fun d => d.parameters.length) = some 1) := by decide +kernel
theorem kl_67_1 : ((js_y 67).cls ≠ "java/lang/invoke/MethodHandle" ∧ (js_y 67).cls ≠ "java/lang/invoke/VarHandle" ∧ (parseMethodDescriptor (js_y 67).desc).map (fun d => d.parameters.length) = some 1) := by decide +kernel
theorem kl_68_2 : ((js_y 68).cls ≠ "java/lang/invoke/MethodHandle" ∧ (js_y 68).cls ≠ "java/lang/invoke/VarHandle" ∧ (parseMethodDescriptor (js_y 68).desc).map (fun d => d.parameters.length) = some 2) := by decide +kernel
theorem kl_69_1 : ((js_y 69).cls ≠ "java/lang/invoke/MethodHandle" ∧ (js_y 69).cls ≠ "java/lang/invoke/VarHandle" ∧ (parseMethodDescriptor (js_y 69).desc).map (fun d => d.parameters.length) = some 1) := by decide +kernel
theorem kl_70_1 : ((js_y 70).cls ≠ "java/lang/invoke/MethodHandle" ∧ (js_y 70).cls ≠ "java/lang/invoke/VarHandle" ∧ (parseMethodDescriptor (js_y 70).desc).map (fun d => d.parameters.length) = some 1) := by decide +kernel
theorem kl_71_0 : ((js_y 71).cls ≠ "java/lang/invoke/MethodHandle" ∧ (js_y 71).cls ≠ "java/lang/invoke/VarHandle" ∧ (parseMethodDescriptor (js_y 71).desc).map (fun d => d.parameters.length) = some 0) := by decide +kernel
theorem kl_72_3 : ((js_y 72).cls ≠ "java/lang/invoke/MethodHandle" ∧ (js_y 72).cls ≠ "java/lang/invoke/VarHandle" ∧ (parseMethodDescriptor (js_y 72).desc).map (fun d => d.parameters.length) = some 3) := by decide +kernel
theorem kl_73_1 : ((js_y 73).cls ≠ "java/lang/invoke/MethodHandle" ∧ (js_y 73).cls ≠ "java/lang/invoke/VarHandle" ∧ (parseMethodDescriptor (js_y 73).desc).map (fun d => d.parameters.length) = some 1) := by decide +kernel
theorem kl_74_2 : ((js_y 74).cls ≠ "java/lang/invoke/MethodHandle" ∧ (js_y 74).cls ≠ "java/lang/invoke/VarHandle" ∧ (parseMethodDescriptor (js_y 74).desc).map (fun d => d.parameters.length) = some 2) := by decide +kernel
theorem kl_75_2 : ((js_y 75).cls ≠ "java/lang/invoke/MethodHandle" ∧ (js_y 75).cls ≠ "java/lang/invoke/VarHandle" ∧ (parseMethodDescriptor (js_y 75).desc).map (fun d => d.parameters.length) = some 2) := by decide +kernel
theorem kl_76_2 : ((js_y 76).cls ≠ "java/lang/invoke/MethodHandle" ∧ (js_y 76).cls ≠ "java/lang/invoke/VarHandle" ∧ (parseMethodDescriptor (js_y 76).desc).map (fun d => d.parameters.length) = some 2) := by decide +kernel
theorem kl_77_0 : ((js_y 77).cls ≠ "java/lang/invoke/MethodHandle" ∧ (js_y 77).cls ≠ "java/lang/invoke/VarHandle" ∧ (parseMethodDescriptor (js_y 77).desc).map (fun d => d.parameters.length) = some 0) := by decide +kernel
theorem kl_78_2 : ((js_y 78).cls ≠ "java/lang/invoke/MethodHandle" ∧ (js_y 78).cls ≠ "java/lang/invoke/VarHandle" ∧ (parseMethodDescriptor (js_y 78).desc).map (fun d => d.parameters.length) = some 2) := by decide +kernel
theorem kl_79_2 : ((js_y 79).cls ≠ "java/lang/invoke/MethodHandle" ∧ (js_y 79).cls ≠ "java/lang/invoke/VarHandle" ∧ (parseMethodDescriptor (js_y 79).desc).map (fun d => d.parameters.length) = some 2) := by decide +kernel
theorem kl_81_1 : ((js_y 81).cls ≠ "java/lang/invoke/MethodHandle" ∧ (js_y 81).cls ≠ "java/lang/invoke/VarHandle" ∧ (parseMethodDescriptor (js_y 81).desc).map (fun d => d.parameters.length) = some 1) := by decide +kernel
theorem kl_84_0 : ((js_y 84).cls ≠ "java/lang/invoke/MethodHandle" ∧ (js_y 84).cls ≠ "java/lang/invoke/VarHandle" ∧ (parseMethodDescriptor (js_y 84).desc).map (fun d => d.parameters.length) = some 0) := by decide +kernel
theorem kl_85_0 : ((js_y 85).cls ≠ "java/lang/invoke/MethodHandle" ∧ (js_y 85).cls ≠ "java/lang/invoke/VarHandle" ∧ (parseMethodDescriptor (js_y 85).desc).map (fun d => d.parameters.length) = some 0) := by decide +kernel
theorem kl_86_0 : ((js_y 86).cls ≠ "java/lang/invoke/MethodHandle" ∧ (js_y 86).cls ≠ "java/lang/invoke/VarHandle" ∧ (parseMethodDescriptor (js_y 86).desc).map (fun d => d.parameters.length) = some 0) := by decide +kernel
theorem kl_87_2 : ((js_y 87).cls ≠ "java/lang/invoke/MethodHandle" ∧ (js_y 87).cls ≠ "java/lang/invoke/VarHandle" ∧ (parseMethodDescriptor (js_y 87).desc).map (fun d => d.parameters.length) = some 2) := by decide +kernel
theorem kl_88_1 : ((js_y 88).cls ≠ "java/lang/invoke/MethodHandle" ∧ (js_y 88).cls ≠ "java/lang/invoke/VarHandle" ∧ (parseMethodDescriptor (js_y 88).desc).map (fun d => d.parameters.length) = some 1) := by decide +kernel
theorem kl_89_2 : ((js_y 89).cls ≠ "java/lang/invoke/MethodHandle" ∧ (js_y 89).cls ≠ "java/lang/invoke/VarHandle" ∧ (parseMethodDescriptor (js_y 89).desc).map (fun d => d.parameters.length) = some 2) := by decide +kernel
theorem kl_90_4 : ((js_y 90).cls ≠ "java/lang/invoke/MethodHandle" ∧ (js_y 90).cls ≠ "java/lang/invoke/VarHandle" ∧ (parseMethodDescriptor (js_y 90).desc).map (fun d => d.parameters.length) = some 4) := by decide +kernel
theorem kl_91_3 : ((js_y 91).cls ≠ "java/lang/invoke/MethodHandle" ∧ (js_y 91).cls ≠ "java/lang/invoke/VarHandle" ∧ (parseMethodDescriptor (js_y 91).desc).map (fun d => d.parameters.length) = some 3) := by decide +kernel
theorem kl_92_2 : ((js_y 92).cls ≠ "java/lang/invoke/MethodHandle" ∧ (js_y 92).cls ≠ "java/lang/invoke/VarHandle" ∧ (parseMethodDescriptor (js_y 92).desc).map (fun d => d.parameters.length) = some 2) := by decide +kernel
theorem kl_93_3 : ((js_y 93).cls ≠ "java/lang/invoke/MethodHandle" ∧ (js_y 93).cls ≠ "java/lang/invoke/VarHandle" ∧ (parseMethodDescriptor (js_y 93).desc).map (fun d => d.parameters.length) = some 3) := by decide +kernel
theorem kl_96_1 : ((js_y 96).cls ≠ "java/lang/invoke/MethodHandle" ∧ (js_y 96).cls ≠ "java/lang/invoke/VarHandle" ∧ (parseMethodDescriptor (js_y 96).desc).map (fun d => d.parameters.length) = some 1) := by decide +kernel
theorem kl_98_0 : ((js_y 98).cls ≠ "java/lang/invoke/MethodHandle" ∧ (js_y 98).cls ≠ "java/lang/invoke/VarHandle" ∧ (parseMethodDescriptor (js_y 98).desc).map (fun d => d.parameters.length) = some 0) := by decide +kernel
theorem kl_100_0 : ((js_y 100).cls ≠ "java/lang/invoke/MethodHandle" ∧ (js_y 100).cls ≠ "java/lang/invoke/VarHandle" ∧ (parseMethodDescriptor (js_y 100).desc).map (fun d => d.parameters.length) = some 0) := by decide +kernel
theorem kl_101_0 : ((js_y 101).cls ≠ "java/lang/invoke/MethodHandle" ∧ (js_y 101).cls ≠ "java/lang/invoke/VarHandle" ∧ (parseMethodDescriptor (js_y 101).desc).map (fun d => d.parameters.length) = some 0) := by decide +kernel
theorem kl_102_0 : ((js_y 102).cls ≠ "java/lang/invoke/MethodHandle" ∧ (js_y 102).cls ≠ "java/lang/invoke/VarHandle" ∧ (parseMethodDescriptor (js_y 102).desc).map (fun d => d.parameters.length) = some 0) := by decide +kernel
theorem kl_103_1 : ((js_y 103).cls ≠ "java/lang/invoke/MethodHandle" ∧ (js_y 103).cls ≠ "java/lang/invoke/VarHandle" ∧ (parseMethodDescriptor (js_y 103).desc).map (fun d => d.parameters.length) = some 1) := by decide +kernel
theorem kl_104_1 : ((js_y 104).cls ≠ "java/lang/invoke/MethodHandle" ∧ (js_y 104).cls ≠ "java/lang/invoke/VarHandle" ∧ (parseMethodDescriptor (js_y 104).desc).map (fun d => d.parameters.length) = some 1) := by decide +kernel
theorem kl_105_1 : ((js_y 105).cls ≠ "java/lang/invoke/MethodHandle" ∧ (js_y 105).cls ≠ "java/lang/invoke/VarHandle" ∧ (parseMethodDescriptor (js_y 105).desc).map (fun d => d.parameters.length) = some 1) := by decide +kernel
theorem kl_106_1 : ((js_y 106).cls ≠ "java/lang/invoke/MethodHandle" ∧ (js_y 106).cls ≠ "java/lang/invoke/VarHandle" ∧ (parseMethodDescriptor (js_y 106).desc).map (fun d => d.parameters.length) = some 1) := by decide +kernel
theorem kl_107_0 : ((js_y 107).cls ≠ "java/lang/invoke/MethodHandle" ∧ (js_y 107).cls ≠ "java/lang/invoke/VarHandle" ∧ (parseMethodDescriptor (js_y 107).desc).map (fun d => d.parameters.length) = some 0) := by decide +kernel
theorem kl_110_0 : ((js_y 110).cls ≠ "java/lang/invoke/MethodHandle" ∧ (js_y 110).cls ≠ "java/lang/invoke/VarHandle" ∧ (parseMethodDescriptor (js_y 110).desc).map (fun d => d.parameters.length) = some 0) := by decide +kernel
theorem kl_111_0 : ((js_y 111).cls ≠ "java/lang/invoke/MethodHandle" ∧ (js_y 111).cls ≠ "java/lang/invoke/VarHandle" ∧ (parseMethodDescriptor (js_y 111).desc).map (fun d => d.parameters.length) = some 0) := by decide +kernel
theorem kl_243_1 : ((js_y 243).cls ≠ "java/lang/invoke/MethodHandle" ∧ (js_y 243).cls ≠ "java/lang/invoke/VarHandle" ∧ (parseMethodDescriptor (js_y 243).desc).map (fun d => d.parameters.length) = some 1) := by decide +kernel
theorem kl_255_0 : ((js_y 255).cls ≠ "java/lang/invoke/MethodHandle" ∧ (js_y 255).cls ≠ "java/lang/invoke/VarHandle" ∧ (parseMethodDescriptor (js_y 255).desc).map (fun d => d.parameters.length) = some 0) := by decide +kernel
theorem kl_257_1 : ((js_y 257).cls ≠ "java/lang/invoke/MethodHandle" ∧ (js_y 257).cls ≠ "java/lang/invoke/VarHandle" ∧ (parseMethodDescriptor (js_y 257).desc).map (fun d => d.parameters.length) = some 1) := by decide +kernel
theorem kl_258_1 : ((js_y 258).cls ≠ "java/lang/invoke/MethodHandle" ∧ (js_y 258).cls ≠ "java/lang/invoke/VarHandle" ∧ (parseMethodDescriptor (js_y 258).desc).map (fun d => d.parameters.length) = some 1) := by decide +kernel
theorem kl_259_1 : ((js_y 259).cls ≠ "java/lang/invoke/MethodHandle" ∧ (js_y 259).cls ≠ "java/lang/invoke/VarHandle" ∧ (parseMethodDescriptor (js_y 259).desc).map (fun d => d.parameters.length) = some 1) := by decide +kernel
theorem kl_260_0 : ((js_y 260).cls ≠ "java/lang/invoke/MethodHandle" ∧ (js_y 260).cls ≠ "java/lang/invoke/VarHandle" ∧ (parseMethodDescriptor (js_y 260).desc).map (fun d => d.parameters.length) = some 0) := by decide +kernel
theorem kk_133_60 : js_lk 133 60 5 := ⟨kc_60, kw_22, kl_60_5, Nat.le_of_ble_eq_true rfl, Nat.le_of_ble_eq_true rfl⟩
theorem kk_134_61 : js_lk 134 61 1 := ⟨kc_61, kw_22, kl_61_1, Nat.le_of_ble_eq_true rfl, Nat.le_of_ble_eq_true rfl⟩
theorem kk_135_64 : js_lk 135 64 1 := ⟨kc_64, kw_22, kl_64_1, Nat.le_of_ble_eq_true rfl, Nat.le_of_ble_eq_true rfl⟩
theorem kk_136_66 : js_lk 136 66 1 := ⟨kc_66, kw_22, kl_66_1, Nat.le_of_ble_eq_true rfl, Nat.le_of_ble_eq_true rfl⟩
theorem kk_137_67 : js_lk 137 67 1 := ⟨kc_67, kw_22, kl_67_1, Nat.le_of_ble_eq_true rfl, Nat.le_of_ble_eq_true rfl⟩
theorem kk_138_68 : js_lk 138 68 2 := ⟨kc_68, kw_22, kl_68_2, Nat.le_of_ble_eq_true rfl, Nat.le_of_ble_eq_true rfl⟩
theorem kk_139_69 : js_lk 139 69 1 := ⟨kc_69, kw_22, kl_69_1, Nat.le_of_ble_eq_true rfl, Nat.le_of_ble_eq_true rfl⟩
theorem kk_140_70 : js_lk 140 70 1 := ⟨kc_70, kw_22, kl_70_1, Nat.le_of_ble_eq_true rfl, Nat.le_of_ble_eq_true rfl⟩
theorem kk_141_72 : js_lk 141 72 3 := ⟨kc_72, kw_22, kl_72_3, Nat.le_of_ble_eq_true rfl, Nat.le_of_ble_eq_true rfl⟩
theorem kk_142_73 : js_lk 142 73 1 := ⟨kc_73, kw_22, kl_73_1, Nat.le_of_ble_eq_true rfl, Nat.le_of_ble_eq_true rfl⟩
theorem kk_143_74 : js_lk 143 74 2 := ⟨kc_74, kw_22, kl_74_2, Nat.le_of_ble_eq_true rfl, Nat.le_of_ble_eq_true rfl⟩
theorem kk_144_75 : js_lk 144 75 2 := ⟨kc_75, kw_22, kl_75_2, Nat.le_of_ble_eq_true rfl, Nat.le_of_ble_eq_true rfl⟩
theorem kk_145_76 : js_lk 145 76 2 := ⟨kc_76, kw_22, kl_76_2, Nat.le_of_ble_eq_true rfl, Nat.le_of_ble_eq_true rfl⟩
theorem kk_146_78 : js_lk 146 78 2 := ⟨kc_78, kw_22, kl_78_2, Nat.le_of_ble_eq_true rfl, Nat.le_of_ble_eq_true rfl⟩
theorem kk_147_79 : js_lk 147 79 2 := ⟨kc_79, kw_22, kl_79_2, Nat.le_of_ble_eq_true rfl, Nat.le_of_ble_eq_true rfl⟩
theorem kk_148_87 : js_lk 148 87 2 := ⟨kc_87, kw_22, kl_87_2, Nat.le_of_ble_eq_true rfl, Nat.le_of_ble_eq_true rfl⟩
theorem kk_149_88 : js_lk 149 88 1 := ⟨kc_88, kw_22, kl_88_1, Nat.le_of_ble_eq_true rfl, Nat.le_of_ble_eq_true rfl⟩
theorem kk_150_89 : js_lk 150 89 2 := ⟨kc_89, kw_22, kl_89_2, Nat.le_of_ble_eq_true rfl, Nat.le_of_ble_eq_true rfl⟩
theorem kk_151_90 : js_lk 151 90 4 := ⟨kc_90, kw_22, kl_90_4, Nat.le_of_ble_eq_true rfl, Nat.le_of_ble_eq_true rfl⟩
theorem kk_152_91 : js_lk 152 91 3 := ⟨kc_91, kw_22, kl_91_3, Nat.le_of_ble_eq_true rfl, Nat.le_of_ble_eq_true rfl⟩
theorem kk_153_92 : js_lk 153 92 2 := ⟨kc_92, kw_22, kl_92_2, Nat.le_of_ble_eq_true rfl, Nat.le_of_ble_eq_true rfl⟩
theorem kk_154_93 : js_lk 154 93 3 := ⟨kc_93, kw_22, kl_93_3, Nat.le_of_ble_eq_true rfl, Nat.le_of_ble_eq_true rfl⟩
theorem kk_155_96 : js_lk 155 96 1 := ⟨kc_96, kw_22, kl_96_1, Nat.le_of_ble_eq_true rfl, Nat.le_of_ble_eq_true rfl⟩
theorem kk_156_98 : js_lk 156 98 0 := ⟨kc_98, kw_22, kl_98_0, Nat.le_of_ble_eq_true rfl, Nat.le_of_ble_eq_true rfl⟩
theorem kk_157_103 : js_lk 157 103 1 := ⟨kc_103, kw_22, kl_103_1, Nat.le_of_ble_eq_true rfl, Nat.le_of_ble_eq_true rfl⟩
theorem kk_158_104 : js_lk 158 104 1 := ⟨kc_104, kw_22, kl_104_1, Nat.le_of_ble_eq_true rfl, Nat.le_of_ble_eq_true rfl⟩
theorem kk_159_105 : js_lk 159 105 1 := ⟨kc_105, kw_22, kl_105_1, Nat.le_of_ble_eq_true rfl, Nat.le_of_ble_eq_true rfl⟩
theorem kk_160_106 : js_lk 160 106 1 := ⟨kc_106, kw_22, kl_106_1, Nat.le_of_ble_eq_true rfl, Nat.le_of_ble_eq_true rfl⟩
theorem kk_161_107 : js_lk 161 107 0 := ⟨kc_107, kw_22, kl_107_0, Nat.le_of_ble_eq_true rfl, Nat.le_of_ble_eq_true rfl⟩
theorem kk_162_110 : js_lk 162 110 0 := ⟨kc_110, kw_22, kl_110_0, Nat.le_of_ble_eq_true rfl, Nat.le_of_ble_eq_true rfl⟩
theorem kk_163_81 : js_lk 163 81 1 := ⟨kc_81, kw_22, kl_81_1, Nat.le_of_ble_eq_true rfl, Nat.le_of_ble_eq_true rfl⟩
theorem kk_164_97 : js_lk 164 97 1 := ⟨kc_97, kw_22, kl_97_1, Nat.le_of_ble_eq_true rfl, Nat.le_of_ble_eq_true rfl⟩
theorem kk_166_248 : js_lk 166 248 0 := ⟨kc_248, kw_42, kl_248_0, Nat.le_of_ble_eq_true rfl, Nat.le_of_ble_eq_true rfl⟩
theorem kk_166_249 : js_lk 166 249 1 := ⟨kc_249, kw_42, kl_249_1, Nat.le_of_ble_eq_true rfl, Nat.le_of_ble_eq_true rfl⟩
theorem kk_168_59 : js_lk 168 59 0 := ⟨kc_59, kw_22, kl_59_0, Nat.le_of_ble_eq_true rfl, Nat.le_of_ble_eq_true rfl⟩
theorem kk_171_67 : js_lk 171 67 1 := ⟨kc_67, kw_22, kl_67_1, Nat.le_of_ble_eq_true rfl, Nat.le_of_ble_eq_true rfl⟩
theorem kk_171_68 : js_lk 171 68 2 := ⟨kc_68, kw_22, kl_68_2, Nat.le_of_ble_eq_true rfl, Nat.le_of_ble_eq_true rfl⟩
theorem kk_172_66 : js_lk 172 66 1 := ⟨kc_66, kw_22, kl_66_1, Nat.le_of_ble_eq_true rfl, Nat.le_of_ble_eq_true rfl⟩
theorem kk_172_68 : js_lk 172 68 2 := ⟨kc_68, kw_22, kl_68_2, Nat.le_of_ble_eq_true rfl, Nat.le_of_ble_eq_true rfl⟩
theorem kk_175_63 : js_lk 175 63 0 := ⟨kc_63, kw_22, kl_63_0, Nat.le_of_ble_eq_true rfl, Nat.le_of_ble_eq_true rfl⟩
theorem kk_175_64 : js_lk 175 64 1 := ⟨kc_64, kw_22, kl_64_1, Nat.le_of_ble_eq_true rfl, Nat.le_of_ble_eq_true rfl⟩
theorem kk_176_68 : js_lk 176 68 2 := ⟨kc_68, kw_22, kl_68_2, Nat.le_of_ble_eq_true rfl, Nat.le_of_ble_eq_true rfl⟩
theorem kk_179_62 : js_lk 179 62 0 := ⟨kc_62, kw_22, kl_62_0, Nat.le_of_ble_eq_true rfl, Nat.le_of_ble_eq_true rfl⟩
theorem kk_179_63 : js_lk 179 63 0 := ⟨kc_63, kw_22, kl_63_0, Nat.le_of_ble_eq_true rfl, Nat.le_of_ble_eq_true rfl⟩
theorem kk_179_65 : js_lk 179 65 1 := ⟨kc_65, kw_22, kl_65_1, Nat.le_of_ble_eq_true rfl, Nat.le_of_ble_eq_true rfl⟩
theorem kk_179_69 : js_lk 179 69 1 := ⟨kc_69, kw_22, kl_69_1, Nat.le_of_ble_eq_true rfl, Nat.le_of_ble_eq_true rfl⟩
theorem kk_179_71 : js_lk 179 71 0 := ⟨kc_71, kw_22, kl_71_0, Nat.le_of_ble_eq_true rfl, Nat.le_of_ble_eq_true rfl⟩
theorem kk_180_62 : js_lk 180 62 0 := ⟨kc_62, kw_22, kl_62_0, Nat.le_of_ble_eq_true rfl, Nat.le_of_ble_eq_true rfl⟩
theorem kk_180_63 : js_lk 180 63 0 := ⟨kc_63, kw_22, kl_63_0, Nat.le_of_ble_eq_true rfl, Nat.le_of_ble_eq_true rfl⟩
theorem kk_180_80 : js_lk 180 80 0 := ⟨kc_80, kw_22, kl_80_0, Nat.le_of_ble_eq_true rfl, Nat.le_of_ble_eq_true rfl⟩
theorem kk_180_82 : js_lk 180 82 0 := ⟨kc_82, kw_22, kl_82_0, Nat.le_of_ble_eq_true rfl, Nat.le_of_ble_eq_true rfl⟩
theorem kk_180_83 : js_lk 180 83 0 := ⟨kc_83, kw_22, kl_83_0, Nat.le_of_ble_eq_true rfl, Nat.le_of_ble_eq_true rfl⟩
theorem kk_180_84 : js_lk 180 84 0 := ⟨kc_84, kw_22, kl_84_0, Nat.le_of_ble_eq_true rfl, Nat.le_of_ble_eq_true rfl⟩
theorem kk_180_85 : js_lk 180 85 0 := ⟨kc_85, kw_22, kl_85_0, Nat.le_of_ble_eq_true rfl, Nat.le_of_ble_eq_true rfl⟩
theorem kk_180_86 : js_lk 180 86 0 := ⟨kc_86, kw_22, kl_86_0, Nat.le_of_ble_eq_true rfl, Nat.le_of_ble_eq_true rfl⟩
theorem kk_180_99 : js_lk 180 99 0 := ⟨kc_99, kw_22, kl_99_0, Nat.le_of_ble_eq_true rfl, Nat.le_of_ble_eq_true rfl⟩
theorem kk_180_100 : js_lk 180 100 0 := ⟨kc_100, kw_22, kl_100_0, Nat.le_of_ble_eq_true rfl, Nat.le_of_ble_eq_true rfl⟩
theorem kk_180_101 : js_lk 180 101 0 := ⟨kc_101, kw_22, kl_101_0, Nat.le_of_ble_eq_true rfl, Nat.le_of_ble_eq_true rfl⟩
theorem kk_180_243 : js_lk 180 243 1 := ⟨kc_243, kw_48, kl_243_1, Nat.le_of_ble_eq_true rfl, Nat.le_of_ble_eq_true rfl⟩
theorem kk_182_63 : js_lk 182 63 0 := ⟨kc_63, kw_22, kl_63_0, Nat.le_of_ble_eq_true rfl, Nat.le_of_ble_eq_true rfl⟩
theorem kk_182_64 : js_lk 182 64 1 := ⟨kc_64, kw_22, kl_64_1, Nat.le_of_ble_eq_true rfl, Nat.le_of_ble_eq_true rfl⟩
theorem kk_183_94 : js_lk 183 94 0 := ⟨kc_94, kw_22, kl_94_0, Nat.le_of_ble_eq_true rfl, Nat.le_of_ble_eq_true rfl⟩
theorem kk_183_95 : js_lk 183 95 0 := ⟨kc_95, kw_22, kl_95_0, Nat.le_of_ble_eq_true rfl, Nat.le_of_ble_eq_true rfl⟩
theorem kk_183_102 : js_lk 183 102 0 := ⟨kc_102, kw_22, kl_102_0, Nat.le_of_ble_eq_true rfl, Nat.le_of_ble_eq_true rfl⟩
theorem kk_183_245 : js_lk 183 245 1 := ⟨kc_245, kw_45, kl_245_1, Nat.le_of_ble_eq_true rfl, Nat.le_of_ble_eq_true rfl⟩
theorem kk_183_246 : js_lk 183 246 2 := ⟨kc_246, kw_40, kl_246_2, Nat.le_of_ble_eq_true rfl, Nat.le_of_ble_eq_true rfl⟩
theorem kk_184_248 : js_lk 184 248 0 := ⟨kc_248, kw_42, kl_248_0, Nat.le_of_ble_eq_true rfl, Nat.le_of_ble_eq_true rfl⟩
theorem kk_184_249 : js_lk 184 249 1 := ⟨kc_249, kw_42, kl_249_1, Nat.le_of_ble_eq_true rfl, Nat.le_of_ble_eq_true rfl⟩
theorem kk_185_65 : js_lk 185 65 1 := ⟨kc_65, kw_22, kl_65_1, Nat.le_of_ble_eq_true rfl, Nat.le_of_ble_eq_true rfl⟩
theorem kk_185_66 : js_lk 185 66 1 := ⟨kc_66, kw_22, kl_66_1, Nat.le_of_ble_eq_true rfl, Nat.le_of_ble_eq_true rfl⟩
theorem kk_185_68 : js_lk 185 68 2 := ⟨kc_68, kw_22, kl_68_2, Nat.le_of_ble_eq_true rfl, Nat.le_of_ble_eq_true rfl⟩
theorem kk_185_249 : js_lk 185 249 1 := ⟨kc_249, kw_42, kl_249_1, Nat.le_of_ble_eq_true rfl, Nat.le_of_ble_eq_true rfl⟩
theorem kk_185_255 : js_lk 185 255 0 := ⟨kc_255, kw_50, kl_255_0, Nat.le_of_ble_eq_true rfl, Nat.le_of_ble_eq_true rfl⟩
theorem kk_185_257 : js_lk 185 257 1 := ⟨kc_257, kw_50, kl_257_1, Nat.le_of_ble_eq_true rfl, Nat.le_of_ble_eq_true rfl⟩
theorem kk_185_258 : js_lk 185 258 1 := ⟨kc_258, kw_50, kl_258_1, Nat.le_of_ble_eq_true rfl, Nat.le_of_ble_eq_true rfl⟩
theorem kk_185_259 : js_lk 185 259 1 := ⟨kc_259, kw_50, kl_259_1, Nat.le_of_ble_eq_true rfl, Nat.le_of_ble_eq_true rfl⟩
theorem kk_185_260 : js_lk 185 260 0 := ⟨kc_260, kw_50, kl_260_0, Nat.le_of_ble_eq_true rfl, Nat.le_of_ble_eq_true rfl⟩
theorem kk_186_65 : js_lk 186 65 1 := ⟨kc_65, kw_22, kl_65_1, Nat.le_of_ble_eq_true rfl, Nat.le_of_ble_eq_true rfl⟩
theorem kk_186_66 : js_lk 186 66 1 := ⟨kc_66, kw_22, kl_66_1, Nat.le_of_ble_eq_true rfl, Nat.le_of_ble_eq_true rfl⟩
theorem kk_186_67 : js_lk 186 67 1 := ⟨kc_67, kw_22, kl_67_1, Nat.le_of_ble_eq_true rfl, Nat.le_of_ble_eq_true rfl⟩
theorem kk_186_68 : js_lk 186 68 2 := ⟨kc_68, kw_22, kl_68_2, Nat.le_of_ble_eq_true rfl, Nat.le_of_ble_eq_true rfl⟩
theorem kk_186_80 : js_lk 186 80 0 := ⟨kc_80, kw_22, kl_80_0, Nat.le_of_ble_eq_true rfl, Nat.le_of_ble_eq_true rfl⟩
theorem kk_187_77 : js_lk 187 77 0 := ⟨kc_77, kw_22, kl_77_0, Nat.le_of_ble_eq_true rfl, Nat.le_of_ble_eq_true rfl⟩
theorem kk_187_111 : js_lk 187 111 0 := ⟨kc_111, kw_22, kl_111_0, Nat.le_of_ble_eq_true rfl, Nat.le_of_ble_eq_true rfl⟩
theorem kk_187_255 : js_lk 187 255 0 := ⟨kc_255, kw_50, kl_255_0, Nat.le_of_ble_eq_true rfl, Nat.le_of_ble_eq_true rfl⟩
theorem kk_187_257 : js_lk 187 257 1 := ⟨kc_257, kw_50, kl_257_1, Nat.le_of_ble_eq_true rfl, Nat.le_of_ble_eq_true rfl⟩
theorem kk_187_259 : js_lk 187 259 1 := ⟨kc_259, kw_50, kl_259_1, Nat.le_of_ble_eq_true rfl, Nat.le_of_ble_eq_true rfl⟩
theorem kk_187_260 : js_lk 187 260 0 := ⟨kc_260, kw_50, kl_260_0, Nat.le_of_ble_eq_true rfl, Nat.le_of_ble_eq_true rfl⟩
theorem kw_21 : (Jvm.Cond.initialized "MosaicCatalogueLaw") ∈ js_ws := js_ws_of 21 (by decide +kernel) (by decide +kernel)
theorem kcw_160 : js_codeW 160 ∈ js_ws := js_ws_of 1372 (by decide +kernel) (by decide +kernel)
theorem klw_160 : ((js_y 160).cls ≠ "java/lang/invoke/MethodHandle" ∧ (js_y 160).cls ≠ "java/lang/invoke/VarHandle" ∧ (parseMethodDescriptor (js_y 160).desc).map (fun d => d.parameters.length) = some 2) := by decide +kernel
theorem kB_166_160 : js_lkB 166 160 2 := ⟨kcw_160, kw_21, klw_160, Nat.le_of_ble_eq_true rfl, Nat.le_of_ble_eq_true rfl⟩
theorem kcw_161 : js_codeW 161 ∈ js_ws := js_ws_of 1388 (by decide +kernel) (by decide +kernel)
theorem klw_161 : ((js_y 161).cls ≠ "java/lang/invoke/MethodHandle" ∧ (js_y 161).cls ≠ "java/lang/invoke/VarHandle" ∧ (parseMethodDescriptor (js_y 161).desc).map (fun d => d.parameters.length) = some 1) := by decide +kernel
theorem kB_166_161 : js_lkB 166 161 1 := ⟨kcw_161, kw_21, klw_161, Nat.le_of_ble_eq_true rfl, Nat.le_of_ble_eq_true rfl⟩
theorem kcw_133 : js_codeW 133 ∈ js_ws := js_ws_of 272 (by decide +kernel) (by decide +kernel)
theorem klw_133 : ((js_y 133).cls ≠ "java/lang/invoke/MethodHandle" ∧ (js_y 133).cls ≠ "java/lang/invoke/VarHandle" ∧ (parseMethodDescriptor (js_y 133).desc).map (fun d => d.parameters.length) = some 6) := by decide +kernel
theorem kB_168_133 : js_lkB 168 133 6 := ⟨kcw_133, kw_21, klw_133, Nat.le_of_ble_eq_true rfl, Nat.le_of_ble_eq_true rfl⟩
theorem kcw_141 : js_codeW 141 ∈ js_ws := js_ws_of 590 (by decide +kernel) (by decide +kernel)
theorem klw_141 : ((js_y 141).cls ≠ "java/lang/invoke/MethodHandle" ∧ (js_y 141).cls ≠ "java/lang/invoke/VarHandle" ∧ (parseMethodDescriptor (js_y 141).desc).map (fun d => d.parameters.length) = some 4) := by decide +kernel
theorem kB_168_141 : js_lkB 168 141 4 := ⟨kcw_141, kw_21, klw_141, Nat.le_of_ble_eq_true rfl, Nat.le_of_ble_eq_true rfl⟩
theorem kcw_142 : js_codeW 142 ∈ js_ws := js_ws_of 612 (by decide +kernel) (by decide +kernel)
theorem klw_142 : ((js_y 142).cls ≠ "java/lang/invoke/MethodHandle" ∧ (js_y 142).cls ≠ "java/lang/invoke/VarHandle" ∧ (parseMethodDescriptor (js_y 142).desc).map (fun d => d.parameters.length) = some 2) := by decide +kernel
theorem kB_168_142 : js_lkB 168 142 2 := ⟨kcw_142, kw_21, klw_142, Nat.le_of_ble_eq_true rfl, Nat.le_of_ble_eq_true rfl⟩
theorem kcw_143 : js_codeW 143 ∈ js_ws := js_ws_of 448 (by decide +kernel) (by decide +kernel)
theorem klw_143 : ((js_y 143).cls ≠ "java/lang/invoke/MethodHandle" ∧ (js_y 143).cls ≠ "java/lang/invoke/VarHandle" ∧ (parseMethodDescriptor (js_y 143).desc).map (fun d => d.parameters.length) = some 3) := by decide +kernel
theorem kB_168_143 : js_lkB 168 143 3 := ⟨kcw_143, kw_21, klw_143, Nat.le_of_ble_eq_true rfl, Nat.le_of_ble_eq_true rfl⟩
theorem kcw_145 : js_codeW 145 ∈ js_ws := js_ws_of 468 (by decide +kernel) (by decide +kernel)
theorem klw_145 : ((js_y 145).cls ≠ "java/lang/invoke/MethodHandle" ∧ (js_y 145).cls ≠ "java/lang/invoke/VarHandle" ∧ (parseMethodDescriptor (js_y 145).desc).map (fun d => d.parameters.length) = some 3) := by decide +kernel
theorem kB_168_145 : js_lkB 168 145 3 := ⟨kcw_145, kw_21, klw_145, Nat.le_of_ble_eq_true rfl, Nat.le_of_ble_eq_true rfl⟩
theorem kcw_165 : js_codeW 165 ∈ js_ws := js_ws_of 265 (by decide +kernel) (by decide +kernel)
theorem klw_165 : ((js_y 165).cls ≠ "java/lang/invoke/MethodHandle" ∧ (js_y 165).cls ≠ "java/lang/invoke/VarHandle" ∧ (parseMethodDescriptor (js_y 165).desc).map (fun d => d.parameters.length) = some 2) := by decide +kernel
theorem kB_168_165 : js_lkB 168 165 2 := ⟨kcw_165, kw_21, klw_165, Nat.le_of_ble_eq_true rfl, Nat.le_of_ble_eq_true rfl⟩
theorem kcw_167 : js_codeW 167 ∈ js_ws := js_ws_of 269 (by decide +kernel) (by decide +kernel)
theorem klw_167 : ((js_y 167).cls ≠ "java/lang/invoke/MethodHandle" ∧ (js_y 167).cls ≠ "java/lang/invoke/VarHandle" ∧ (parseMethodDescriptor (js_y 167).desc).map (fun d => d.parameters.length) = some 1) := by decide +kernel
theorem kB_168_167 : js_lkB 168 167 1 := ⟨kcw_167, kw_21, klw_167, Nat.le_of_ble_eq_true rfl, Nat.le_of_ble_eq_true rfl⟩
theorem kcw_147 : js_codeW 147 ∈ js_ws := js_ws_of 740 (by decide +kernel) (by decide +kernel)
theorem klw_147 : ((js_y 147).cls ≠ "java/lang/invoke/MethodHandle" ∧ (js_y 147).cls ≠ "java/lang/invoke/VarHandle" ∧ (parseMethodDescriptor (js_y 147).desc).map (fun d => d.parameters.length) = some 3) := by decide +kernel
theorem kB_169_147 : js_lkB 169 147 3 := ⟨kcw_147, kw_21, klw_147, Nat.le_of_ble_eq_true rfl, Nat.le_of_ble_eq_true rfl⟩
theorem kcw_146 : js_codeW 146 ∈ js_ws := js_ws_of 780 (by decide +kernel) (by decide +kernel)
theorem klw_146 : ((js_y 146).cls ≠ "java/lang/invoke/MethodHandle" ∧ (js_y 146).cls ≠ "java/lang/invoke/VarHandle" ∧ (parseMethodDescriptor (js_y 146).desc).map (fun d => d.parameters.length) = some 3) := by decide +kernel
theorem kB_170_146 : js_lkB 170 146 3 := ⟨kcw_146, kw_21, klw_146, Nat.le_of_ble_eq_true rfl, Nat.le_of_ble_eq_true rfl⟩
theorem kcw_169 : js_codeW 169 ∈ js_ws := js_ws_of 777 (by decide +kernel) (by decide +kernel)
theorem klw_169 : ((js_y 169).cls ≠ "java/lang/invoke/MethodHandle" ∧ (js_y 169).cls ≠ "java/lang/invoke/VarHandle" ∧ (parseMethodDescriptor (js_y 169).desc).map (fun d => d.parameters.length) = some 4) := by decide +kernel
theorem kB_170_169 : js_lkB 170 169 4 := ⟨kcw_169, kw_21, klw_169, Nat.le_of_ble_eq_true rfl, Nat.le_of_ble_eq_true rfl⟩
theorem kB_172_169 : js_lkB 172 169 4 := ⟨kcw_169, kw_21, klw_169, Nat.le_of_ble_eq_true rfl, Nat.le_of_ble_eq_true rfl⟩
theorem kcw_171 : js_codeW 171 ∈ js_ws := js_ws_of 928 (by decide +kernel) (by decide +kernel)
theorem klw_171 : ((js_y 171).cls ≠ "java/lang/invoke/MethodHandle" ∧ (js_y 171).cls ≠ "java/lang/invoke/VarHandle" ∧ (parseMethodDescriptor (js_y 171).desc).map (fun d => d.parameters.length) = some 4) := by decide +kernel
theorem kB_172_171 : js_lkB 172 171 4 := ⟨kcw_171, kw_21, klw_171, Nat.le_of_ble_eq_true rfl, Nat.le_of_ble_eq_true rfl⟩
theorem kcw_172 : js_codeW 172 ∈ js_ws := js_ws_of 925 (by decide +kernel) (by decide +kernel)
theorem klw_172 : ((js_y 172).cls ≠ "java/lang/invoke/MethodHandle" ∧ (js_y 172).cls ≠ "java/lang/invoke/VarHandle" ∧ (parseMethodDescriptor (js_y 172).desc).map (fun d => d.parameters.length) = some 5) := by decide +kernel
theorem kB_173_172 : js_lkB 173 172 5 := ⟨kcw_172, kw_21, klw_172, Nat.le_of_ble_eq_true rfl, Nat.le_of_ble_eq_true rfl⟩
theorem kB_174_172 : js_lkB 174 172 5 := ⟨kcw_172, kw_21, klw_172, Nat.le_of_ble_eq_true rfl, Nat.le_of_ble_eq_true rfl⟩
theorem kcw_173 : js_codeW 173 ∈ js_ws := js_ws_of 934 (by decide +kernel) (by decide +kernel)
theorem klw_173 : ((js_y 173).cls ≠ "java/lang/invoke/MethodHandle" ∧ (js_y 173).cls ≠ "java/lang/invoke/VarHandle" ∧ (parseMethodDescriptor (js_y 173).desc).map (fun d => d.parameters.length) = some 4) := by decide +kernel
theorem kB_174_173 : js_lkB 174 173 4 := ⟨kcw_173, kw_21, klw_173, Nat.le_of_ble_eq_true rfl, Nat.le_of_ble_eq_true rfl⟩
theorem kcw_174 : js_codeW 174 ∈ js_ws := js_ws_of 931 (by decide +kernel) (by decide +kernel)
theorem klw_174 : ((js_y 174).cls ≠ "java/lang/invoke/MethodHandle" ∧ (js_y 174).cls ≠ "java/lang/invoke/VarHandle" ∧ (parseMethodDescriptor (js_y 174).desc).map (fun d => d.parameters.length) = some 4) := by decide +kernel
theorem kB_175_174 : js_lkB 175 174 4 := ⟨kcw_174, kw_21, klw_174, Nat.le_of_ble_eq_true rfl, Nat.le_of_ble_eq_true rfl⟩
theorem kB_176_147 : js_lkB 176 147 3 := ⟨kcw_147, kw_21, klw_147, Nat.le_of_ble_eq_true rfl, Nat.le_of_ble_eq_true rfl⟩
theorem kB_176_169 : js_lkB 176 169 4 := ⟨kcw_169, kw_21, klw_169, Nat.le_of_ble_eq_true rfl, Nat.le_of_ble_eq_true rfl⟩
theorem kcw_176 : js_codeW 176 ∈ js_ws := js_ws_of 787 (by decide +kernel) (by decide +kernel)
theorem klw_176 : ((js_y 176).cls ≠ "java/lang/invoke/MethodHandle" ∧ (js_y 176).cls ≠ "java/lang/invoke/VarHandle" ∧ (parseMethodDescriptor (js_y 176).desc).map (fun d => d.parameters.length) = some 4) := by decide +kernel
theorem kB_177_176 : js_lkB 177 176 4 := ⟨kcw_176, kw_21, klw_176, Nat.le_of_ble_eq_true rfl, Nat.le_of_ble_eq_true rfl⟩
theorem kB_178_176 : js_lkB 178 176 4 := ⟨kcw_176, kw_21, klw_176, Nat.le_of_ble_eq_true rfl, Nat.le_of_ble_eq_true rfl⟩
theorem kcw_135 : js_codeW 135 ∈ js_ws := js_ws_of 669 (by decide +kernel) (by decide +kernel)
theorem klw_135 : ((js_y 135).cls ≠ "java/lang/invoke/MethodHandle" ∧ (js_y 135).cls ≠ "java/lang/invoke/VarHandle" ∧ (parseMethodDescriptor (js_y 135).desc).map (fun d => d.parameters.length) = some 2) := by decide +kernel
theorem kB_179_135 : js_lkB 179 135 2 := ⟨kcw_135, kw_21, klw_135, Nat.le_of_ble_eq_true rfl, Nat.le_of_ble_eq_true rfl⟩
theorem kcw_136 : js_codeW 136 ∈ js_ws := js_ws_of 631 (by decide +kernel) (by decide +kernel)
theorem klw_136 : ((js_y 136).cls ≠ "java/lang/invoke/MethodHandle" ∧ (js_y 136).cls ≠ "java/lang/invoke/VarHandle" ∧ (parseMethodDescriptor (js_y 136).desc).map (fun d => d.parameters.length) = some 2) := by decide +kernel
theorem kB_179_136 : js_lkB 179 136 2 := ⟨kcw_136, kw_21, klw_136, Nat.le_of_ble_eq_true rfl, Nat.le_of_ble_eq_true rfl⟩
theorem kcw_137 : js_codeW 137 ∈ js_ws := js_ws_of 642 (by decide +kernel) (by decide +kernel)
theorem klw_137 : ((js_y 137).cls ≠ "java/lang/invoke/MethodHandle" ∧ (js_y 137).cls ≠ "java/lang/invoke/VarHandle" ∧ (parseMethodDescriptor (js_y 137).desc).map (fun d => d.parameters.length) = some 2) := by decide +kernel
theorem kB_179_137 : js_lkB 179 137 2 := ⟨kcw_137, kw_21, klw_137, Nat.le_of_ble_eq_true rfl, Nat.le_of_ble_eq_true rfl⟩
theorem kcw_138 : js_codeW 138 ∈ js_ws := js_ws_of 657 (by decide +kernel) (by decide +kernel)
theorem klw_138 : ((js_y 138).cls ≠ "java/lang/invoke/MethodHandle" ∧ (js_y 138).cls ≠ "java/lang/invoke/VarHandle" ∧ (parseMethodDescriptor (js_y 138).desc).map (fun d => d.parameters.length) = some 3) := by decide +kernel
theorem kB_179_138 : js_lkB 179 138 3 := ⟨kcw_138, kw_21, klw_138, Nat.le_of_ble_eq_true rfl, Nat.le_of_ble_eq_true rfl⟩
theorem kcw_139 : js_codeW 139 ∈ js_ws := js_ws_of 649 (by decide +kernel) (by decide +kernel)
theorem klw_139 : ((js_y 139).cls ≠ "java/lang/invoke/MethodHandle" ∧ (js_y 139).cls ≠ "java/lang/invoke/VarHandle" ∧ (parseMethodDescriptor (js_y 139).desc).map (fun d => d.parameters.length) = some 2) := by decide +kernel
theorem kB_179_139 : js_lkB 179 139 2 := ⟨kcw_139, kw_21, klw_139, Nat.le_of_ble_eq_true rfl, Nat.le_of_ble_eq_true rfl⟩
theorem kcw_140 : js_codeW 140 ∈ js_ws := js_ws_of 681 (by decide +kernel) (by decide +kernel)
theorem klw_140 : ((js_y 140).cls ≠ "java/lang/invoke/MethodHandle" ∧ (js_y 140).cls ≠ "java/lang/invoke/VarHandle" ∧ (parseMethodDescriptor (js_y 140).desc).map (fun d => d.parameters.length) = some 2) := by decide +kernel
theorem kB_179_140 : js_lkB 179 140 2 := ⟨kcw_140, kw_21, klw_140, Nat.le_of_ble_eq_true rfl, Nat.le_of_ble_eq_true rfl⟩
theorem kB_179_147 : js_lkB 179 147 3 := ⟨kcw_147, kw_21, klw_147, Nat.le_of_ble_eq_true rfl, Nat.le_of_ble_eq_true rfl⟩
theorem kcw_148 : js_codeW 148 ∈ js_ws := js_ws_of 693 (by decide +kernel) (by decide +kernel)
theorem klw_148 : ((js_y 148).cls ≠ "java/lang/invoke/MethodHandle" ∧ (js_y 148).cls ≠ "java/lang/invoke/VarHandle" ∧ (parseMethodDescriptor (js_y 148).desc).map (fun d => d.parameters.length) = some 3) := by decide +kernel
theorem kB_179_148 : js_lkB 179 148 3 := ⟨kcw_148, kw_21, klw_148, Nat.le_of_ble_eq_true rfl, Nat.le_of_ble_eq_true rfl⟩
theorem kcw_149 : js_codeW 149 ∈ js_ws := js_ws_of 701 (by decide +kernel) (by decide +kernel)
theorem klw_149 : ((js_y 149).cls ≠ "java/lang/invoke/MethodHandle" ∧ (js_y 149).cls ≠ "java/lang/invoke/VarHandle" ∧ (parseMethodDescriptor (js_y 149).desc).map (fun d => d.parameters.length) = some 2) := by decide +kernel
theorem kB_179_149 : js_lkB 179 149 2 := ⟨kcw_149, kw_21, klw_149, Nat.le_of_ble_eq_true rfl, Nat.le_of_ble_eq_true rfl⟩
theorem kcw_155 : js_codeW 155 ∈ js_ws := js_ws_of 709 (by decide +kernel) (by decide +kernel)
theorem klw_155 : ((js_y 155).cls ≠ "java/lang/invoke/MethodHandle" ∧ (js_y 155).cls ≠ "java/lang/invoke/VarHandle" ∧ (parseMethodDescriptor (js_y 155).desc).map (fun d => d.parameters.length) = some 2) := by decide +kernel
theorem kB_179_155 : js_lkB 179 155 2 := ⟨kcw_155, kw_21, klw_155, Nat.le_of_ble_eq_true rfl, Nat.le_of_ble_eq_true rfl⟩
theorem kcw_164 : js_codeW 164 ∈ js_ws := js_ws_of 735 (by decide +kernel) (by decide +kernel)
theorem klw_164 : ((js_y 164).cls ≠ "java/lang/invoke/MethodHandle" ∧ (js_y 164).cls ≠ "java/lang/invoke/VarHandle" ∧ (parseMethodDescriptor (js_y 164).desc).map (fun d => d.parameters.length) = some 2) := by decide +kernel
theorem kB_179_164 : js_lkB 179 164 2 := ⟨kcw_164, kw_21, klw_164, Nat.le_of_ble_eq_true rfl, Nat.le_of_ble_eq_true rfl⟩
theorem kB_180_136 : js_lkB 180 136 2 := ⟨kcw_136, kw_21, klw_136, Nat.le_of_ble_eq_true rfl, Nat.le_of_ble_eq_true rfl⟩
theorem kB_180_146 : js_lkB 180 146 3 := ⟨kcw_146, kw_21, klw_146, Nat.le_of_ble_eq_true rfl, Nat.le_of_ble_eq_true rfl⟩
theorem kB_180_147 : js_lkB 180 147 3 := ⟨kcw_147, kw_21, klw_147, Nat.le_of_ble_eq_true rfl, Nat.le_of_ble_eq_true rfl⟩
theorem kB_180_148 : js_lkB 180 148 3 := ⟨kcw_148, kw_21, klw_148, Nat.le_of_ble_eq_true rfl, Nat.le_of_ble_eq_true rfl⟩
theorem kB_180_149 : js_lkB 180 149 2 := ⟨kcw_149, kw_21, klw_149, Nat.le_of_ble_eq_true rfl, Nat.le_of_ble_eq_true rfl⟩
theorem kcw_150 : js_codeW 150 ∈ js_ws := js_ws_of 793 (by decide +kernel) (by decide +kernel)
theorem klw_150 : ((js_y 150).cls ≠ "java/lang/invoke/MethodHandle" ∧ (js_y 150).cls ≠ "java/lang/invoke/VarHandle" ∧ (parseMethodDescriptor (js_y 150).desc).map (fun d => d.parameters.length) = some 3) := by decide +kernel
theorem kB_180_150 : js_lkB 180 150 3 := ⟨kcw_150, kw_21, klw_150, Nat.le_of_ble_eq_true rfl, Nat.le_of_ble_eq_true rfl⟩
theorem kcw_163 : js_codeW 163 ∈ js_ws := js_ws_of 801 (by decide +kernel) (by decide +kernel)
theorem klw_163 : ((js_y 163).cls ≠ "java/lang/invoke/MethodHandle" ∧ (js_y 163).cls ≠ "java/lang/invoke/VarHandle" ∧ (parseMethodDescriptor (js_y 163).desc).map (fun d => d.parameters.length) = some 2) := by decide +kernel
theorem kB_180_163 : js_lkB 180 163 2 := ⟨kcw_163, kw_21, klw_163, Nat.le_of_ble_eq_true rfl, Nat.le_of_ble_eq_true rfl⟩
theorem kcw_170 : js_codeW 170 ∈ js_ws := js_ws_of 774 (by decide +kernel) (by decide +kernel)
theorem klw_170 : ((js_y 170).cls ≠ "java/lang/invoke/MethodHandle" ∧ (js_y 170).cls ≠ "java/lang/invoke/VarHandle" ∧ (parseMethodDescriptor (js_y 170).desc).map (fun d => d.parameters.length) = some 3) := by decide +kernel
theorem kB_180_170 : js_lkB 180 170 3 := ⟨kcw_170, kw_21, klw_170, Nat.le_of_ble_eq_true rfl, Nat.le_of_ble_eq_true rfl⟩
theorem kB_180_176 : js_lkB 180 176 4 := ⟨kcw_176, kw_21, klw_176, Nat.le_of_ble_eq_true rfl, Nat.le_of_ble_eq_true rfl⟩
theorem kcw_177 : js_codeW 177 ∈ js_ws := js_ws_of 790 (by decide +kernel) (by decide +kernel)
theorem klw_177 : ((js_y 177).cls ≠ "java/lang/invoke/MethodHandle" ∧ (js_y 177).cls ≠ "java/lang/invoke/VarHandle" ∧ (parseMethodDescriptor (js_y 177).desc).map (fun d => d.parameters.length) = some 4) := by decide +kernel
theorem kB_180_177 : js_lkB 180 177 4 := ⟨kcw_177, kw_21, klw_177, Nat.le_of_ble_eq_true rfl, Nat.le_of_ble_eq_true rfl⟩
theorem kcw_178 : js_codeW 178 ∈ js_ws := js_ws_of 811 (by decide +kernel) (by decide +kernel)
theorem klw_178 : ((js_y 178).cls ≠ "java/lang/invoke/MethodHandle" ∧ (js_y 178).cls ≠ "java/lang/invoke/VarHandle" ∧ (parseMethodDescriptor (js_y 178).desc).map (fun d => d.parameters.length) = some 2) := by decide +kernel
theorem kB_180_178 : js_lkB 180 178 2 := ⟨kcw_178, kw_21, klw_178, Nat.le_of_ble_eq_true rfl, Nat.le_of_ble_eq_true rfl⟩
theorem kcw_151 : js_codeW 151 ∈ js_ws := js_ws_of 912 (by decide +kernel) (by decide +kernel)
theorem klw_151 : ((js_y 151).cls ≠ "java/lang/invoke/MethodHandle" ∧ (js_y 151).cls ≠ "java/lang/invoke/VarHandle" ∧ (parseMethodDescriptor (js_y 151).desc).map (fun d => d.parameters.length) = some 5) := by decide +kernel
theorem kB_181_151 : js_lkB 181 151 5 := ⟨kcw_151, kw_21, klw_151, Nat.le_of_ble_eq_true rfl, Nat.le_of_ble_eq_true rfl⟩
theorem kcw_152 : js_codeW 152 ∈ js_ws := js_ws_of 937 (by decide +kernel) (by decide +kernel)
theorem klw_152 : ((js_y 152).cls ≠ "java/lang/invoke/MethodHandle" ∧ (js_y 152).cls ≠ "java/lang/invoke/VarHandle" ∧ (parseMethodDescriptor (js_y 152).desc).map (fun d => d.parameters.length) = some 4) := by decide +kernel
theorem kB_181_152 : js_lkB 181 152 4 := ⟨kcw_152, kw_21, klw_152, Nat.le_of_ble_eq_true rfl, Nat.le_of_ble_eq_true rfl⟩
theorem kcw_153 : js_codeW 153 ∈ js_ws := js_ws_of 895 (by decide +kernel) (by decide +kernel)
theorem klw_153 : ((js_y 153).cls ≠ "java/lang/invoke/MethodHandle" ∧ (js_y 153).cls ≠ "java/lang/invoke/VarHandle" ∧ (parseMethodDescriptor (js_y 153).desc).map (fun d => d.parameters.length) = some 3) := by decide +kernel
theorem kB_181_153 : js_lkB 181 153 3 := ⟨kcw_153, kw_21, klw_153, Nat.le_of_ble_eq_true rfl, Nat.le_of_ble_eq_true rfl⟩
theorem kcw_154 : js_codeW 154 ∈ js_ws := js_ws_of 902 (by decide +kernel) (by decide +kernel)
theorem klw_154 : ((js_y 154).cls ≠ "java/lang/invoke/MethodHandle" ∧ (js_y 154).cls ≠ "java/lang/invoke/VarHandle" ∧ (parseMethodDescriptor (js_y 154).desc).map (fun d => d.parameters.length) = some 4) := by decide +kernel
theorem kB_181_154 : js_lkB 181 154 4 := ⟨kcw_154, kw_21, klw_154, Nat.le_of_ble_eq_true rfl, Nat.le_of_ble_eq_true rfl⟩
theorem kB_181_170 : js_lkB 181 170 3 := ⟨kcw_170, kw_21, klw_170, Nat.le_of_ble_eq_true rfl, Nat.le_of_ble_eq_true rfl⟩
theorem kcw_182 : js_codeW 182 ∈ js_ws := js_ws_of 909 (by decide +kernel) (by decide +kernel)
theorem klw_182 : ((js_y 182).cls ≠ "java/lang/invoke/MethodHandle" ∧ (js_y 182).cls ≠ "java/lang/invoke/VarHandle" ∧ (parseMethodDescriptor (js_y 182).desc).map (fun d => d.parameters.length) = some 3) := by decide +kernel
theorem kB_181_182 : js_lkB 181 182 3 := ⟨kcw_182, kw_21, klw_182, Nat.le_of_ble_eq_true rfl, Nat.le_of_ble_eq_true rfl⟩
theorem kB_182_150 : js_lkB 182 150 3 := ⟨kcw_150, kw_21, klw_150, Nat.le_of_ble_eq_true rfl, Nat.le_of_ble_eq_true rfl⟩
theorem kB_182_151 : js_lkB 182 151 5 := ⟨kcw_151, kw_21, klw_151, Nat.le_of_ble_eq_true rfl, Nat.le_of_ble_eq_true rfl⟩
theorem kB_182_152 : js_lkB 182 152 4 := ⟨kcw_152, kw_21, klw_152, Nat.le_of_ble_eq_true rfl, Nat.le_of_ble_eq_true rfl⟩
theorem kB_182_153 : js_lkB 182 153 3 := ⟨kcw_153, kw_21, klw_153, Nat.le_of_ble_eq_true rfl, Nat.le_of_ble_eq_true rfl⟩
theorem kB_182_154 : js_lkB 182 154 4 := ⟨kcw_154, kw_21, klw_154, Nat.le_of_ble_eq_true rfl, Nat.le_of_ble_eq_true rfl⟩
theorem kB_182_169 : js_lkB 182 169 4 := ⟨kcw_169, kw_21, klw_169, Nat.le_of_ble_eq_true rfl, Nat.le_of_ble_eq_true rfl⟩
theorem kB_182_172 : js_lkB 182 172 5 := ⟨kcw_172, kw_21, klw_172, Nat.le_of_ble_eq_true rfl, Nat.le_of_ble_eq_true rfl⟩
theorem kB_182_173 : js_lkB 182 173 4 := ⟨kcw_173, kw_21, klw_173, Nat.le_of_ble_eq_true rfl, Nat.le_of_ble_eq_true rfl⟩
theorem kB_182_174 : js_lkB 182 174 4 := ⟨kcw_174, kw_21, klw_174, Nat.le_of_ble_eq_true rfl, Nat.le_of_ble_eq_true rfl⟩
theorem kcw_175 : js_codeW 175 ∈ js_ws := js_ws_of 945 (by decide +kernel) (by decide +kernel)
theorem klw_175 : ((js_y 175).cls ≠ "java/lang/invoke/MethodHandle" ∧ (js_y 175).cls ≠ "java/lang/invoke/VarHandle" ∧ (parseMethodDescriptor (js_y 175).desc).map (fun d => d.parameters.length) = some 3) := by decide +kernel
theorem kB_182_175 : js_lkB 182 175 3 := ⟨kcw_175, kw_21, klw_175, Nat.le_of_ble_eq_true rfl, Nat.le_of_ble_eq_true rfl⟩
theorem kB_183_147 : js_lkB 183 147 3 := ⟨kcw_147, kw_21, klw_147, Nat.le_of_ble_eq_true rfl, Nat.le_of_ble_eq_true rfl⟩
theorem kB_183_155 : js_lkB 183 155 2 := ⟨kcw_155, kw_21, klw_155, Nat.le_of_ble_eq_true rfl, Nat.le_of_ble_eq_true rfl⟩
theorem kcw_156 : js_codeW 156 ∈ js_ws := js_ws_of 983 (by decide +kernel) (by decide +kernel)
theorem klw_156 : ((js_y 156).cls ≠ "java/lang/invoke/MethodHandle" ∧ (js_y 156).cls ≠ "java/lang/invoke/VarHandle" ∧ (parseMethodDescriptor (js_y 156).desc).map (fun d => d.parameters.length) = some 1) := by decide +kernel
theorem kB_183_156 : js_lkB 183 156 1 := ⟨kcw_156, kw_21, klw_156, Nat.le_of_ble_eq_true rfl, Nat.le_of_ble_eq_true rfl⟩
theorem kB_183_164 : js_lkB 183 164 2 := ⟨kcw_164, kw_21, klw_164, Nat.le_of_ble_eq_true rfl, Nat.le_of_ble_eq_true rfl⟩
theorem kcw_300 : js_codeW 300 ∈ js_ws := js_ws_of 951 (by decide +kernel) (by decide +kernel)
theorem klw_300 : ((js_y 300).cls ≠ "java/lang/invoke/MethodHandle" ∧ (js_y 300).cls ≠ "java/lang/invoke/VarHandle" ∧ (parseMethodDescriptor (js_y 300).desc).map (fun d => d.parameters.length) = some 2) := by decide +kernel
theorem kB_183_300 : js_lkB 183 300 2 := ⟨kcw_300, kw_21, klw_300, Nat.le_of_ble_eq_true rfl, Nat.le_of_ble_eq_true rfl⟩
theorem kcw_159 : js_codeW 159 ∈ js_ws := js_ws_of 1276 (by decide +kernel) (by decide +kernel)
theorem klw_159 : ((js_y 159).cls ≠ "java/lang/invoke/MethodHandle" ∧ (js_y 159).cls ≠ "java/lang/invoke/VarHandle" ∧ (parseMethodDescriptor (js_y 159).desc).map (fun d => d.parameters.length) = some 2) := by decide +kernel
theorem kB_184_159 : js_lkB 184 159 2 := ⟨kcw_159, kw_21, klw_159, Nat.le_of_ble_eq_true rfl, Nat.le_of_ble_eq_true rfl⟩
theorem kB_185_140 : js_lkB 185 140 2 := ⟨kcw_140, kw_21, klw_140, Nat.le_of_ble_eq_true rfl, Nat.le_of_ble_eq_true rfl⟩
theorem kB_185_147 : js_lkB 185 147 3 := ⟨kcw_147, kw_21, klw_147, Nat.le_of_ble_eq_true rfl, Nat.le_of_ble_eq_true rfl⟩
theorem kcw_157 : js_codeW 157 ∈ js_ws := js_ws_of 1261 (by decide +kernel) (by decide +kernel)
theorem klw_157 : ((js_y 157).cls ≠ "java/lang/invoke/MethodHandle" ∧ (js_y 157).cls ≠ "java/lang/invoke/VarHandle" ∧ (parseMethodDescriptor (js_y 157).desc).map (fun d => d.parameters.length) = some 2) := by decide +kernel
theorem kB_185_157 : js_lkB 185 157 2 := ⟨kcw_157, kw_21, klw_157, Nat.le_of_ble_eq_true rfl, Nat.le_of_ble_eq_true rfl⟩
theorem kcw_158 : js_codeW 158 ∈ js_ws := js_ws_of 1300 (by decide +kernel) (by decide +kernel)
theorem klw_158 : ((js_y 158).cls ≠ "java/lang/invoke/MethodHandle" ∧ (js_y 158).cls ≠ "java/lang/invoke/VarHandle" ∧ (parseMethodDescriptor (js_y 158).desc).map (fun d => d.parameters.length) = some 2) := by decide +kernel
theorem kB_185_158 : js_lkB 185 158 2 := ⟨kcw_158, kw_21, klw_158, Nat.le_of_ble_eq_true rfl, Nat.le_of_ble_eq_true rfl⟩
theorem kB_185_170 : js_lkB 185 170 3 := ⟨kcw_170, kw_21, klw_170, Nat.le_of_ble_eq_true rfl, Nat.le_of_ble_eq_true rfl⟩
theorem kcw_184 : js_codeW 184 ∈ js_ws := js_ws_of 1272 (by decide +kernel) (by decide +kernel)
theorem klw_184 : ((js_y 184).cls ≠ "java/lang/invoke/MethodHandle" ∧ (js_y 184).cls ≠ "java/lang/invoke/VarHandle" ∧ (parseMethodDescriptor (js_y 184).desc).map (fun d => d.parameters.length) = some 3) := by decide +kernel
theorem kB_185_184 : js_lkB 185 184 3 := ⟨kcw_184, kw_21, klw_184, Nat.le_of_ble_eq_true rfl, Nat.le_of_ble_eq_true rfl⟩
theorem kB_186_140 : js_lkB 186 140 2 := ⟨kcw_140, kw_21, klw_140, Nat.le_of_ble_eq_true rfl, Nat.le_of_ble_eq_true rfl⟩
theorem kB_187_133 : js_lkB 187 133 6 := ⟨kcw_133, kw_21, klw_133, Nat.le_of_ble_eq_true rfl, Nat.le_of_ble_eq_true rfl⟩
theorem kcw_134 : js_codeW 134 ∈ js_ws := js_ws_of 1322 (by decide +kernel) (by decide +kernel)
theorem klw_134 : ((js_y 134).cls ≠ "java/lang/invoke/MethodHandle" ∧ (js_y 134).cls ≠ "java/lang/invoke/VarHandle" ∧ (parseMethodDescriptor (js_y 134).desc).map (fun d => d.parameters.length) = some 2) := by decide +kernel
theorem kB_187_134 : js_lkB 187 134 2 := ⟨kcw_134, kw_21, klw_134, Nat.le_of_ble_eq_true rfl, Nat.le_of_ble_eq_true rfl⟩
theorem kB_187_141 : js_lkB 187 141 4 := ⟨kcw_141, kw_21, klw_141, Nat.le_of_ble_eq_true rfl, Nat.le_of_ble_eq_true rfl⟩
theorem kB_187_142 : js_lkB 187 142 2 := ⟨kcw_142, kw_21, klw_142, Nat.le_of_ble_eq_true rfl, Nat.le_of_ble_eq_true rfl⟩
theorem kB_187_143 : js_lkB 187 143 3 := ⟨kcw_143, kw_21, klw_143, Nat.le_of_ble_eq_true rfl, Nat.le_of_ble_eq_true rfl⟩
theorem kcw_144 : js_codeW 144 ∈ js_ws := js_ws_of 1333 (by decide +kernel) (by decide +kernel)
theorem klw_144 : ((js_y 144).cls ≠ "java/lang/invoke/MethodHandle" ∧ (js_y 144).cls ≠ "java/lang/invoke/VarHandle" ∧ (parseMethodDescriptor (js_y 144).desc).map (fun d => d.parameters.length) = some 3) := by decide +kernel
theorem kB_187_144 : js_lkB 187 144 3 := ⟨kcw_144, kw_21, klw_144, Nat.le_of_ble_eq_true rfl, Nat.le_of_ble_eq_true rfl⟩
theorem kB_187_145 : js_lkB 187 145 3 := ⟨kcw_145, kw_21, klw_145, Nat.le_of_ble_eq_true rfl, Nat.le_of_ble_eq_true rfl⟩
theorem kcw_162 : js_codeW 162 ∈ js_ws := js_ws_of 1455 (by decide +kernel) (by decide +kernel)
theorem klw_162 : ((js_y 162).cls ≠ "java/lang/invoke/MethodHandle" ∧ (js_y 162).cls ≠ "java/lang/invoke/VarHandle" ∧ (parseMethodDescriptor (js_y 162).desc).map (fun d => d.parameters.length) = some 1) := by decide +kernel
theorem kB_187_162 : js_lkB 187 162 1 := ⟨kcw_162, kw_21, klw_162, Nat.le_of_ble_eq_true rfl, Nat.le_of_ble_eq_true rfl⟩
theorem kB_187_165 : js_lkB 187 165 2 := ⟨kcw_165, kw_21, klw_165, Nat.le_of_ble_eq_true rfl, Nat.le_of_ble_eq_true rfl⟩
theorem kcw_166 : js_codeW 166 ∈ js_ws := js_ws_of 1369 (by decide +kernel) (by decide +kernel)
theorem klw_166 : ((js_y 166).cls ≠ "java/lang/invoke/MethodHandle" ∧ (js_y 166).cls ≠ "java/lang/invoke/VarHandle" ∧ (parseMethodDescriptor (js_y 166).desc).map (fun d => d.parameters.length) = some 2) := by decide +kernel
theorem kB_187_166 : js_lkB 187 166 2 := ⟨kcw_166, kw_21, klw_166, Nat.le_of_ble_eq_true rfl, Nat.le_of_ble_eq_true rfl⟩
theorem kcw_186 : js_codeW 186 ∈ js_ws := js_ws_of 1315 (by decide +kernel) (by decide +kernel)
theorem klw_186 : ((js_y 186).cls ≠ "java/lang/invoke/MethodHandle" ∧ (js_y 186).cls ≠ "java/lang/invoke/VarHandle" ∧ (parseMethodDescriptor (js_y 186).desc).map (fun d => d.parameters.length) = some 1) := by decide +kernel
theorem kB_187_186 : js_lkB 187 186 1 := ⟨kcw_186, kw_21, klw_186, Nat.le_of_ble_eq_true rfl, Nat.le_of_ble_eq_true rfl⟩
theorem kcw_168 : js_codeW 168 ∈ js_ws := js_ws_of 59 (by decide +kernel) (by decide +kernel)
theorem klw_168 : ((js_y 168).cls ≠ "java/lang/invoke/MethodHandle" ∧ (js_y 168).cls ≠ "java/lang/invoke/VarHandle" ∧ (parseMethodDescriptor (js_y 168).desc).map (fun d => d.parameters.length) = some 1) := by decide +kernel
theorem kB_188_168 : js_lkB 188 168 1 := ⟨kcw_168, kw_21, klw_168, Nat.le_of_ble_eq_true rfl, Nat.le_of_ble_eq_true rfl⟩
theorem kcw_179 : js_codeW 179 ∈ js_ws := js_ws_of 623 (by decide +kernel) (by decide +kernel)
theorem klw_179 : ((js_y 179).cls ≠ "java/lang/invoke/MethodHandle" ∧ (js_y 179).cls ≠ "java/lang/invoke/VarHandle" ∧ (parseMethodDescriptor (js_y 179).desc).map (fun d => d.parameters.length) = some 1) := by decide +kernel
theorem kB_188_179 : js_lkB 188 179 1 := ⟨kcw_179, kw_21, klw_179, Nat.le_of_ble_eq_true rfl, Nat.le_of_ble_eq_true rfl⟩
theorem kcw_180 : js_codeW 180 ∈ js_ws := js_ws_of 771 (by decide +kernel) (by decide +kernel)
theorem klw_180 : ((js_y 180).cls ≠ "java/lang/invoke/MethodHandle" ∧ (js_y 180).cls ≠ "java/lang/invoke/VarHandle" ∧ (parseMethodDescriptor (js_y 180).desc).map (fun d => d.parameters.length) = some 1) := by decide +kernel
theorem kB_188_180 : js_lkB 188 180 1 := ⟨kcw_180, kw_21, klw_180, Nat.le_of_ble_eq_true rfl, Nat.le_of_ble_eq_true rfl⟩
theorem kcw_181 : js_codeW 181 ∈ js_ws := js_ws_of 892 (by decide +kernel) (by decide +kernel)
theorem klw_181 : ((js_y 181).cls ≠ "java/lang/invoke/MethodHandle" ∧ (js_y 181).cls ≠ "java/lang/invoke/VarHandle" ∧ (parseMethodDescriptor (js_y 181).desc).map (fun d => d.parameters.length) = some 1) := by decide +kernel
theorem kB_188_181 : js_lkB 188 181 1 := ⟨kcw_181, kw_21, klw_181, Nat.le_of_ble_eq_true rfl, Nat.le_of_ble_eq_true rfl⟩
theorem kcw_183 : js_codeW 183 ∈ js_ws := js_ws_of 948 (by decide +kernel) (by decide +kernel)
theorem klw_183 : ((js_y 183).cls ≠ "java/lang/invoke/MethodHandle" ∧ (js_y 183).cls ≠ "java/lang/invoke/VarHandle" ∧ (parseMethodDescriptor (js_y 183).desc).map (fun d => d.parameters.length) = some 1) := by decide +kernel
theorem kB_188_183 : js_lkB 188 183 1 := ⟨kcw_183, kw_21, klw_183, Nat.le_of_ble_eq_true rfl, Nat.le_of_ble_eq_true rfl⟩
theorem kcw_185 : js_codeW 185 ∈ js_ws := js_ws_of 1003 (by decide +kernel) (by decide +kernel)
theorem klw_185 : ((js_y 185).cls ≠ "java/lang/invoke/MethodHandle" ∧ (js_y 185).cls ≠ "java/lang/invoke/VarHandle" ∧ (parseMethodDescriptor (js_y 185).desc).map (fun d => d.parameters.length) = some 1) := by decide +kernel
theorem kB_188_185 : js_lkB 188 185 1 := ⟨kcw_185, kw_21, klw_185, Nat.le_of_ble_eq_true rfl, Nat.le_of_ble_eq_true rfl⟩
theorem kcw_187 : js_codeW 187 ∈ js_ws := js_ws_of 1312 (by decide +kernel) (by decide +kernel)
theorem klw_187 : ((js_y 187).cls ≠ "java/lang/invoke/MethodHandle" ∧ (js_y 187).cls ≠ "java/lang/invoke/VarHandle" ∧ (parseMethodDescriptor (js_y 187).desc).map (fun d => d.parameters.length) = some 2) := by decide +kernel
theorem kB_188_187 : js_lkB 188 187 2 := ⟨kcw_187, kw_21, klw_187, Nat.le_of_ble_eq_true rfl, Nat.le_of_ble_eq_true rfl⟩
theorem kB_300_176 : js_lkB 300 176 4 := ⟨kcw_176, kw_21, klw_176, Nat.le_of_ble_eq_true rfl, Nat.le_of_ble_eq_true rfl⟩
theorem kcw_301 : js_codeW 301 ∈ js_ws := js_ws_of 951 (by decide +kernel) (by decide +kernel)
theorem klw_301 : ((js_y 301).cls ≠ "java/lang/invoke/MethodHandle" ∧ (js_y 301).cls ≠ "java/lang/invoke/VarHandle" ∧ (parseMethodDescriptor (js_y 301).desc).map (fun d => d.parameters.length) = some 2) := by decide +kernel
theorem kB_300_301 : js_lkB 300 301 2 := ⟨kcw_301, kw_21, klw_301, Nat.le_of_ble_eq_true rfl, Nat.le_of_ble_eq_true rfl⟩
theorem kB_301_176 : js_lkB 301 176 4 := ⟨kcw_176, kw_21, klw_176, Nat.le_of_ble_eq_true rfl, Nat.le_of_ble_eq_true rfl⟩
theorem kcw_302 : js_codeW 302 ∈ js_ws := js_ws_of 951 (by decide +kernel) (by decide +kernel)
theorem klw_302 : ((js_y 302).cls ≠ "java/lang/invoke/MethodHandle" ∧ (js_y 302).cls ≠ "java/lang/invoke/VarHandle" ∧ (parseMethodDescriptor (js_y 302).desc).map (fun d => d.parameters.length) = some 2) := by decide +kernel
theorem kB_301_302 : js_lkB 301 302 2 := ⟨kcw_302, kw_21, klw_302, Nat.le_of_ble_eq_true rfl, Nat.le_of_ble_eq_true rfl⟩
theorem kB_302_176 : js_lkB 302 176 4 := ⟨kcw_176, kw_21, klw_176, Nat.le_of_ble_eq_true rfl, Nat.le_of_ble_eq_true rfl⟩
theorem kcw_303 : js_codeW 303 ∈ js_ws := js_ws_of 951 (by decide +kernel) (by decide +kernel)
theorem klw_303 : ((js_y 303).cls ≠ "java/lang/invoke/MethodHandle" ∧ (js_y 303).cls ≠ "java/lang/invoke/VarHandle" ∧ (parseMethodDescriptor (js_y 303).desc).map (fun d => d.parameters.length) = some 2) := by decide +kernel
theorem kB_302_303 : js_lkB 302 303 2 := ⟨kcw_303, kw_21, klw_303, Nat.le_of_ble_eq_true rfl, Nat.le_of_ble_eq_true rfl⟩
theorem kB_303_176 : js_lkB 303 176 4 := ⟨kcw_176, kw_21, klw_176, Nat.le_of_ble_eq_true rfl, Nat.le_of_ble_eq_true rfl⟩
theorem kcw_304 : js_codeW 304 ∈ js_ws := js_ws_of 951 (by decide +kernel) (by decide +kernel)
theorem klw_304 : ((js_y 304).cls ≠ "java/lang/invoke/MethodHandle" ∧ (js_y 304).cls ≠ "java/lang/invoke/VarHandle" ∧ (parseMethodDescriptor (js_y 304).desc).map (fun d => d.parameters.length) = some 2) := by decide +kernel
theorem kB_303_304 : js_lkB 303 304 2 := ⟨kcw_304, kw_21, klw_304, Nat.le_of_ble_eq_true rfl, Nat.le_of_ble_eq_true rfl⟩
theorem kB_304_176 : js_lkB 304 176 4 := ⟨kcw_176, kw_21, klw_176, Nat.le_of_ble_eq_true rfl, Nat.le_of_ble_eq_true rfl⟩
theorem kcw_305 : js_codeW 305 ∈ js_ws := js_ws_of 951 (by decide +kernel) (by decide +kernel)
theorem klw_305 : ((js_y 305).cls ≠ "java/lang/invoke/MethodHandle" ∧ (js_y 305).cls ≠ "java/lang/invoke/VarHandle" ∧ (parseMethodDescriptor (js_y 305).desc).map (fun d => d.parameters.length) = some 2) := by decide +kernel
theorem kB_304_305 : js_lkB 304 305 2 := ⟨kcw_305, kw_21, klw_305, Nat.le_of_ble_eq_true rfl, Nat.le_of_ble_eq_true rfl⟩
theorem kB_305_176 : js_lkB 305 176 4 := ⟨kcw_176, kw_21, klw_176, Nat.le_of_ble_eq_true rfl, Nat.le_of_ble_eq_true rfl⟩
theorem kcw_306 : js_codeW 306 ∈ js_ws := js_ws_of 951 (by decide +kernel) (by decide +kernel)
theorem klw_306 : ((js_y 306).cls ≠ "java/lang/invoke/MethodHandle" ∧ (js_y 306).cls ≠ "java/lang/invoke/VarHandle" ∧ (parseMethodDescriptor (js_y 306).desc).map (fun d => d.parameters.length) = some 2) := by decide +kernel
theorem kB_305_306 : js_lkB 305 306 2 := ⟨kcw_306, kw_21, klw_306, Nat.le_of_ble_eq_true rfl, Nat.le_of_ble_eq_true rfl⟩
theorem kB_306_176 : js_lkB 306 176 4 := ⟨kcw_176, kw_21, klw_176, Nat.le_of_ble_eq_true rfl, Nat.le_of_ble_eq_true rfl⟩
theorem kcw_307 : js_codeW 307 ∈ js_ws := js_ws_of 951 (by decide +kernel) (by decide +kernel)
theorem klw_307 : ((js_y 307).cls ≠ "java/lang/invoke/MethodHandle" ∧ (js_y 307).cls ≠ "java/lang/invoke/VarHandle" ∧ (parseMethodDescriptor (js_y 307).desc).map (fun d => d.parameters.length) = some 2) := by decide +kernel
theorem kB_306_307 : js_lkB 306 307 2 := ⟨kcw_307, kw_21, klw_307, Nat.le_of_ble_eq_true rfl, Nat.le_of_ble_eq_true rfl⟩
theorem kB_307_176 : js_lkB 307 176 4 := ⟨kcw_176, kw_21, klw_176, Nat.le_of_ble_eq_true rfl, Nat.le_of_ble_eq_true rfl⟩
theorem kcw_308 : js_codeW 308 ∈ js_ws := js_ws_of 951 (by decide +kernel) (by decide +kernel)
theorem klw_308 : ((js_y 308).cls ≠ "java/lang/invoke/MethodHandle" ∧ (js_y 308).cls ≠ "java/lang/invoke/VarHandle" ∧ (parseMethodDescriptor (js_y 308).desc).map (fun d => d.parameters.length) = some 2) := by decide +kernel
theorem kB_307_308 : js_lkB 307 308 2 := ⟨kcw_308, kw_21, klw_308, Nat.le_of_ble_eq_true rfl, Nat.le_of_ble_eq_true rfl⟩
theorem kB_308_176 : js_lkB 308 176 4 := ⟨kcw_176, kw_21, klw_176, Nat.le_of_ble_eq_true rfl, Nat.le_of_ble_eq_true rfl⟩
theorem kcw_309 : js_codeW 309 ∈ js_ws := js_ws_of 951 (by decide +kernel) (by decide +kernel)
theorem klw_309 : ((js_y 309).cls ≠ "java/lang/invoke/MethodHandle" ∧ (js_y 309).cls ≠ "java/lang/invoke/VarHandle" ∧ (parseMethodDescriptor (js_y 309).desc).map (fun d => d.parameters.length) = some 2) := by decide +kernel
theorem kB_308_309 : js_lkB 308 309 2 := ⟨kcw_309, kw_21, klw_309, Nat.le_of_ble_eq_true rfl, Nat.le_of_ble_eq_true rfl⟩
theorem kB_309_176 : js_lkB 309 176 4 := ⟨kcw_176, kw_21, klw_176, Nat.le_of_ble_eq_true rfl, Nat.le_of_ble_eq_true rfl⟩
theorem kcw_310 : js_codeW 310 ∈ js_ws := js_ws_of 951 (by decide +kernel) (by decide +kernel)
theorem klw_310 : ((js_y 310).cls ≠ "java/lang/invoke/MethodHandle" ∧ (js_y 310).cls ≠ "java/lang/invoke/VarHandle" ∧ (parseMethodDescriptor (js_y 310).desc).map (fun d => d.parameters.length) = some 2) := by decide +kernel
theorem kB_309_310 : js_lkB 309 310 2 := ⟨kcw_310, kw_21, klw_310, Nat.le_of_ble_eq_true rfl, Nat.le_of_ble_eq_true rfl⟩
theorem kB_310_176 : js_lkB 310 176 4 := ⟨kcw_176, kw_21, klw_176, Nat.le_of_ble_eq_true rfl, Nat.le_of_ble_eq_true rfl⟩
theorem kcw_311 : js_codeW 311 ∈ js_ws := js_ws_of 951 (by decide +kernel) (by decide +kernel)
theorem klw_311 : ((js_y 311).cls ≠ "java/lang/invoke/MethodHandle" ∧ (js_y 311).cls ≠ "java/lang/invoke/VarHandle" ∧ (parseMethodDescriptor (js_y 311).desc).map (fun d => d.parameters.length) = some 2) := by decide +kernel
theorem kB_310_311 : js_lkB 310 311 2 := ⟨kcw_311, kw_21, klw_311, Nat.le_of_ble_eq_true rfl, Nat.le_of_ble_eq_true rfl⟩
theorem kB_311_176 : js_lkB 311 176 4 := ⟨kcw_176, kw_21, klw_176, Nat.le_of_ble_eq_true rfl, Nat.le_of_ble_eq_true rfl⟩
theorem kcw_312 : js_codeW 312 ∈ js_ws := js_ws_of 951 (by decide +kernel) (by decide +kernel)
theorem klw_312 : ((js_y 312).cls ≠ "java/lang/invoke/MethodHandle" ∧ (js_y 312).cls ≠ "java/lang/invoke/VarHandle" ∧ (parseMethodDescriptor (js_y 312).desc).map (fun d => d.parameters.length) = some 2) := by decide +kernel
theorem kB_311_312 : js_lkB 311 312 2 := ⟨kcw_312, kw_21, klw_312, Nat.le_of_ble_eq_true rfl, Nat.le_of_ble_eq_true rfl⟩
theorem kB_312_176 : js_lkB 312 176 4 := ⟨kcw_176, kw_21, klw_176, Nat.le_of_ble_eq_true rfl, Nat.le_of_ble_eq_true rfl⟩
theorem kcw_313 : js_codeW 313 ∈ js_ws := js_ws_of 951 (by decide +kernel) (by decide +kernel)
theorem klw_313 : ((js_y 313).cls ≠ "java/lang/invoke/MethodHandle" ∧ (js_y 313).cls ≠ "java/lang/invoke/VarHandle" ∧ (parseMethodDescriptor (js_y 313).desc).map (fun d => d.parameters.length) = some 2) := by decide +kernel
theorem kB_312_313 : js_lkB 312 313 2 := ⟨kcw_313, kw_21, klw_313, Nat.le_of_ble_eq_true rfl, Nat.le_of_ble_eq_true rfl⟩
theorem kB_313_176 : js_lkB 313 176 4 := ⟨kcw_176, kw_21, klw_176, Nat.le_of_ble_eq_true rfl, Nat.le_of_ble_eq_true rfl⟩
theorem kcw_314 : js_codeW 314 ∈ js_ws := js_ws_of 951 (by decide +kernel) (by decide +kernel)
theorem klw_314 : ((js_y 314).cls ≠ "java/lang/invoke/MethodHandle" ∧ (js_y 314).cls ≠ "java/lang/invoke/VarHandle" ∧ (parseMethodDescriptor (js_y 314).desc).map (fun d => d.parameters.length) = some 2) := by decide +kernel
theorem kB_313_314 : js_lkB 313 314 2 := ⟨kcw_314, kw_21, klw_314, Nat.le_of_ble_eq_true rfl, Nat.le_of_ble_eq_true rfl⟩
theorem kB_314_176 : js_lkB 314 176 4 := ⟨kcw_176, kw_21, klw_176, Nat.le_of_ble_eq_true rfl, Nat.le_of_ble_eq_true rfl⟩
theorem kcw_315 : js_codeW 315 ∈ js_ws := js_ws_of 951 (by decide +kernel) (by decide +kernel)
theorem klw_315 : ((js_y 315).cls ≠ "java/lang/invoke/MethodHandle" ∧ (js_y 315).cls ≠ "java/lang/invoke/VarHandle" ∧ (parseMethodDescriptor (js_y 315).desc).map (fun d => d.parameters.length) = some 2) := by decide +kernel
theorem kB_314_315 : js_lkB 314 315 2 := ⟨kcw_315, kw_21, klw_315, Nat.le_of_ble_eq_true rfl, Nat.le_of_ble_eq_true rfl⟩
theorem kB_315_176 : js_lkB 315 176 4 := ⟨kcw_176, kw_21, klw_176, Nat.le_of_ble_eq_true rfl, Nat.le_of_ble_eq_true rfl⟩
theorem kcw_316 : js_codeW 316 ∈ js_ws := js_ws_of 951 (by decide +kernel) (by decide +kernel)
theorem klw_316 : ((js_y 316).cls ≠ "java/lang/invoke/MethodHandle" ∧ (js_y 316).cls ≠ "java/lang/invoke/VarHandle" ∧ (parseMethodDescriptor (js_y 316).desc).map (fun d => d.parameters.length) = some 2) := by decide +kernel
theorem kB_315_316 : js_lkB 315 316 2 := ⟨kcw_316, kw_21, klw_316, Nat.le_of_ble_eq_true rfl, Nat.le_of_ble_eq_true rfl⟩
theorem kB_316_176 : js_lkB 316 176 4 := ⟨kcw_176, kw_21, klw_176, Nat.le_of_ble_eq_true rfl, Nat.le_of_ble_eq_true rfl⟩
theorem kcw_317 : js_codeW 317 ∈ js_ws := js_ws_of 951 (by decide +kernel) (by decide +kernel)
theorem klw_317 : ((js_y 317).cls ≠ "java/lang/invoke/MethodHandle" ∧ (js_y 317).cls ≠ "java/lang/invoke/VarHandle" ∧ (parseMethodDescriptor (js_y 317).desc).map (fun d => d.parameters.length) = some 2) := by decide +kernel
theorem kB_316_317 : js_lkB 316 317 2 := ⟨kcw_317, kw_21, klw_317, Nat.le_of_ble_eq_true rfl, Nat.le_of_ble_eq_true rfl⟩
theorem kB_317_176 : js_lkB 317 176 4 := ⟨kcw_176, kw_21, klw_176, Nat.le_of_ble_eq_true rfl, Nat.le_of_ble_eq_true rfl⟩
theorem kcw_318 : js_codeW 318 ∈ js_ws := js_ws_of 951 (by decide +kernel) (by decide +kernel)
theorem klw_318 : ((js_y 318).cls ≠ "java/lang/invoke/MethodHandle" ∧ (js_y 318).cls ≠ "java/lang/invoke/VarHandle" ∧ (parseMethodDescriptor (js_y 318).desc).map (fun d => d.parameters.length) = some 2) := by decide +kernel
theorem kB_317_318 : js_lkB 317 318 2 := ⟨kcw_318, kw_21, klw_318, Nat.le_of_ble_eq_true rfl, Nat.le_of_ble_eq_true rfl⟩
theorem kB_318_176 : js_lkB 318 176 4 := ⟨kcw_176, kw_21, klw_176, Nat.le_of_ble_eq_true rfl, Nat.le_of_ble_eq_true rfl⟩
theorem kcw_319 : js_codeW 319 ∈ js_ws := js_ws_of 951 (by decide +kernel) (by decide +kernel)
theorem klw_319 : ((js_y 319).cls ≠ "java/lang/invoke/MethodHandle" ∧ (js_y 319).cls ≠ "java/lang/invoke/VarHandle" ∧ (parseMethodDescriptor (js_y 319).desc).map (fun d => d.parameters.length) = some 2) := by decide +kernel
theorem kB_318_319 : js_lkB 318 319 2 := ⟨kcw_319, kw_21, klw_319, Nat.le_of_ble_eq_true rfl, Nat.le_of_ble_eq_true rfl⟩
theorem kB_319_176 : js_lkB 319 176 4 := ⟨kcw_176, kw_21, klw_176, Nat.le_of_ble_eq_true rfl, Nat.le_of_ble_eq_true rfl⟩
theorem kcw_320 : js_codeW 320 ∈ js_ws := js_ws_of 951 (by decide +kernel) (by decide +kernel)
theorem klw_320 : ((js_y 320).cls ≠ "java/lang/invoke/MethodHandle" ∧ (js_y 320).cls ≠ "java/lang/invoke/VarHandle" ∧ (parseMethodDescriptor (js_y 320).desc).map (fun d => d.parameters.length) = some 2) := by decide +kernel
theorem kB_319_320 : js_lkB 319 320 2 := ⟨kcw_320, kw_21, klw_320, Nat.le_of_ble_eq_true rfl, Nat.le_of_ble_eq_true rfl⟩
theorem kB_320_176 : js_lkB 320 176 4 := ⟨kcw_176, kw_21, klw_176, Nat.le_of_ble_eq_true rfl, Nat.le_of_ble_eq_true rfl⟩
theorem kcw_321 : js_codeW 321 ∈ js_ws := js_ws_of 951 (by decide +kernel) (by decide +kernel)
theorem klw_321 : ((js_y 321).cls ≠ "java/lang/invoke/MethodHandle" ∧ (js_y 321).cls ≠ "java/lang/invoke/VarHandle" ∧ (parseMethodDescriptor (js_y 321).desc).map (fun d => d.parameters.length) = some 2) := by decide +kernel
theorem kB_320_321 : js_lkB 320 321 2 := ⟨kcw_321, kw_21, klw_321, Nat.le_of_ble_eq_true rfl, Nat.le_of_ble_eq_true rfl⟩
theorem kB_321_176 : js_lkB 321 176 4 := ⟨kcw_176, kw_21, klw_176, Nat.le_of_ble_eq_true rfl, Nat.le_of_ble_eq_true rfl⟩
theorem kcw_322 : js_codeW 322 ∈ js_ws := js_ws_of 951 (by decide +kernel) (by decide +kernel)
theorem klw_322 : ((js_y 322).cls ≠ "java/lang/invoke/MethodHandle" ∧ (js_y 322).cls ≠ "java/lang/invoke/VarHandle" ∧ (parseMethodDescriptor (js_y 322).desc).map (fun d => d.parameters.length) = some 2) := by decide +kernel
theorem kB_321_322 : js_lkB 321 322 2 := ⟨kcw_322, kw_21, klw_322, Nat.le_of_ble_eq_true rfl, Nat.le_of_ble_eq_true rfl⟩
theorem kB_322_176 : js_lkB 322 176 4 := ⟨kcw_176, kw_21, klw_176, Nat.le_of_ble_eq_true rfl, Nat.le_of_ble_eq_true rfl⟩
theorem kcw_323 : js_codeW 323 ∈ js_ws := js_ws_of 951 (by decide +kernel) (by decide +kernel)
theorem klw_323 : ((js_y 323).cls ≠ "java/lang/invoke/MethodHandle" ∧ (js_y 323).cls ≠ "java/lang/invoke/VarHandle" ∧ (parseMethodDescriptor (js_y 323).desc).map (fun d => d.parameters.length) = some 2) := by decide +kernel
theorem kB_322_323 : js_lkB 322 323 2 := ⟨kcw_323, kw_21, klw_323, Nat.le_of_ble_eq_true rfl, Nat.le_of_ble_eq_true rfl⟩
theorem kB_323_176 : js_lkB 323 176 4 := ⟨kcw_176, kw_21, klw_176, Nat.le_of_ble_eq_true rfl, Nat.le_of_ble_eq_true rfl⟩
theorem kcw_324 : js_codeW 324 ∈ js_ws := js_ws_of 951 (by decide +kernel) (by decide +kernel)
theorem klw_324 : ((js_y 324).cls ≠ "java/lang/invoke/MethodHandle" ∧ (js_y 324).cls ≠ "java/lang/invoke/VarHandle" ∧ (parseMethodDescriptor (js_y 324).desc).map (fun d => d.parameters.length) = some 2) := by decide +kernel
theorem kB_323_324 : js_lkB 323 324 2 := ⟨kcw_324, kw_21, klw_324, Nat.le_of_ble_eq_true rfl, Nat.le_of_ble_eq_true rfl⟩
theorem kB_324_176 : js_lkB 324 176 4 := ⟨kcw_176, kw_21, klw_176, Nat.le_of_ble_eq_true rfl, Nat.le_of_ble_eq_true rfl⟩
theorem kcw_325 : js_codeW 325 ∈ js_ws := js_ws_of 951 (by decide +kernel) (by decide +kernel)
theorem klw_325 : ((js_y 325).cls ≠ "java/lang/invoke/MethodHandle" ∧ (js_y 325).cls ≠ "java/lang/invoke/VarHandle" ∧ (parseMethodDescriptor (js_y 325).desc).map (fun d => d.parameters.length) = some 2) := by decide +kernel
theorem kB_324_325 : js_lkB 324 325 2 := ⟨kcw_325, kw_21, klw_325, Nat.le_of_ble_eq_true rfl, Nat.le_of_ble_eq_true rfl⟩
theorem kB_325_176 : js_lkB 325 176 4 := ⟨kcw_176, kw_21, klw_176, Nat.le_of_ble_eq_true rfl, Nat.le_of_ble_eq_true rfl⟩
theorem kcw_326 : js_codeW 326 ∈ js_ws := js_ws_of 951 (by decide +kernel) (by decide +kernel)
theorem klw_326 : ((js_y 326).cls ≠ "java/lang/invoke/MethodHandle" ∧ (js_y 326).cls ≠ "java/lang/invoke/VarHandle" ∧ (parseMethodDescriptor (js_y 326).desc).map (fun d => d.parameters.length) = some 2) := by decide +kernel
theorem kB_325_326 : js_lkB 325 326 2 := ⟨kcw_326, kw_21, klw_326, Nat.le_of_ble_eq_true rfl, Nat.le_of_ble_eq_true rfl⟩
theorem kB_326_176 : js_lkB 326 176 4 := ⟨kcw_176, kw_21, klw_176, Nat.le_of_ble_eq_true rfl, Nat.le_of_ble_eq_true rfl⟩
theorem kcw_327 : js_codeW 327 ∈ js_ws := js_ws_of 951 (by decide +kernel) (by decide +kernel)
theorem klw_327 : ((js_y 327).cls ≠ "java/lang/invoke/MethodHandle" ∧ (js_y 327).cls ≠ "java/lang/invoke/VarHandle" ∧ (parseMethodDescriptor (js_y 327).desc).map (fun d => d.parameters.length) = some 2) := by decide +kernel
theorem kB_326_327 : js_lkB 326 327 2 := ⟨kcw_327, kw_21, klw_327, Nat.le_of_ble_eq_true rfl, Nat.le_of_ble_eq_true rfl⟩
theorem kB_327_176 : js_lkB 327 176 4 := ⟨kcw_176, kw_21, klw_176, Nat.le_of_ble_eq_true rfl, Nat.le_of_ble_eq_true rfl⟩
theorem kcw_328 : js_codeW 328 ∈ js_ws := js_ws_of 951 (by decide +kernel) (by decide +kernel)
theorem klw_328 : ((js_y 328).cls ≠ "java/lang/invoke/MethodHandle" ∧ (js_y 328).cls ≠ "java/lang/invoke/VarHandle" ∧ (parseMethodDescriptor (js_y 328).desc).map (fun d => d.parameters.length) = some 2) := by decide +kernel
theorem kB_327_328 : js_lkB 327 328 2 := ⟨kcw_328, kw_21, klw_328, Nat.le_of_ble_eq_true rfl, Nat.le_of_ble_eq_true rfl⟩
theorem kB_328_176 : js_lkB 328 176 4 := ⟨kcw_176, kw_21, klw_176, Nat.le_of_ble_eq_true rfl, Nat.le_of_ble_eq_true rfl⟩
theorem kcw_329 : js_codeW 329 ∈ js_ws := js_ws_of 951 (by decide +kernel) (by decide +kernel)
theorem klw_329 : ((js_y 329).cls ≠ "java/lang/invoke/MethodHandle" ∧ (js_y 329).cls ≠ "java/lang/invoke/VarHandle" ∧ (parseMethodDescriptor (js_y 329).desc).map (fun d => d.parameters.length) = some 2) := by decide +kernel
theorem kB_328_329 : js_lkB 328 329 2 := ⟨kcw_329, kw_21, klw_329, Nat.le_of_ble_eq_true rfl, Nat.le_of_ble_eq_true rfl⟩
theorem kB_329_176 : js_lkB 329 176 4 := ⟨kcw_176, kw_21, klw_176, Nat.le_of_ble_eq_true rfl, Nat.le_of_ble_eq_true rfl⟩
theorem kcw_330 : js_codeW 330 ∈ js_ws := js_ws_of 951 (by decide +kernel) (by decide +kernel)
theorem klw_330 : ((js_y 330).cls ≠ "java/lang/invoke/MethodHandle" ∧ (js_y 330).cls ≠ "java/lang/invoke/VarHandle" ∧ (parseMethodDescriptor (js_y 330).desc).map (fun d => d.parameters.length) = some 2) := by decide +kernel
theorem kB_329_330 : js_lkB 329 330 2 := ⟨kcw_330, kw_21, klw_330, Nat.le_of_ble_eq_true rfl, Nat.le_of_ble_eq_true rfl⟩
end JS
