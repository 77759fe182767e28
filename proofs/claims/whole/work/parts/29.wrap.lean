theorem gw_258 : Cond.instanceMethod yX7_up ∈ GW := gw_mem 258 (by decide +kernel) (by decide +kernel)
theorem gw_259 : Cond.selects RX7 yX7_up yX7_up ∈ GW := gw_mem 259 (by decide +kernel) (by decide +kernel)
theorem gw_260 : Cond.code yX7_up cX7_up 1 (some .int) ∈ GW := gw_mem 260 (by decide +kernel) (by decide +kernel)
theorem gw_331 : Cond.instanceMethod yX7_down ∈ GW := gw_mem 331 (by decide +kernel) (by decide +kernel)
theorem gw_332 : Cond.selects RX7 yX7_down yX7_down ∈ GW := gw_mem 332 (by decide +kernel) (by decide +kernel)
theorem gw_333 : Cond.code yX7_down cX7_down 1 (some .int) ∈ GW := gw_mem 333 (by decide +kernel) (by decide +kernel)
theorem gw_339 : Cond.instanceMethod yX7_moveInLine ∈ GW := gw_mem 339 (by decide +kernel) (by decide +kernel)
theorem gw_340 : Cond.selects RX7 yX7_moveInLine yX7_moveInLine ∈ GW := gw_mem 340 (by decide +kernel) (by decide +kernel)
theorem gw_341 : Cond.code yX7_moveInLine cX7_moveInLine 4 (some .int) ∈ GW := gw_mem 341 (by decide +kernel) (by decide +kernel)
theorem gw_353 : Cond.instanceMethod yX7_setEager ∈ GW := gw_mem 353 (by decide +kernel) (by decide +kernel)
theorem gw_354 : Cond.selects RX7 yX7_setEager yX7_setEager ∈ GW := gw_mem 354 (by decide +kernel) (by decide +kernel)
theorem gw_355 : Cond.code yX7_setEager cX7_setEager 2 (some .int) ∈ GW := gw_mem 355 (by decide +kernel) (by decide +kernel)
theorem gw_358 : Cond.instanceMethod yX7_length ∈ GW := gw_mem 358 (by decide +kernel) (by decide +kernel)
theorem gw_359 : Cond.selects RX7 yX7_length yX7_length ∈ GW := gw_mem 359 (by decide +kernel) (by decide +kernel)
theorem gw_360 : Cond.code yX7_length cX7_length 1 (some .int) ∈ GW := gw_mem 360 (by decide +kernel) (by decide +kernel)
theorem gw_363 : Cond.instanceMethod yX7_caret ∈ GW := gw_mem 363 (by decide +kernel) (by decide +kernel)
theorem gw_364 : Cond.selects RX7 yX7_caret yX7_caret ∈ GW := gw_mem 364 (by decide +kernel) (by decide +kernel)
theorem gw_365 : Cond.code yX7_caret cX7_caret 1 (some .int) ∈ GW := gw_mem 365 (by decide +kernel) (by decide +kernel)
theorem gw_367 : Cond.instanceMethod yX7_lines ∈ GW := gw_mem 367 (by decide +kernel) (by decide +kernel)
theorem gw_368 : Cond.selects RX7 yX7_lines yX7_lines ∈ GW := gw_mem 368 (by decide +kernel) (by decide +kernel)
theorem gw_369 : Cond.code yX7_lines cX7_lines 1 (some .int) ∈ GW := gw_mem 369 (by decide +kernel) (by decide +kernel)
theorem gw_379 : Cond.instanceMethod yX7_capacity ∈ GW := gw_mem 379 (by decide +kernel) (by decide +kernel)
theorem gw_380 : Cond.selects RX7 yX7_capacity yX7_capacity ∈ GW := gw_mem 380 (by decide +kernel) (by decide +kernel)
theorem gw_381 : Cond.code yX7_capacity cX7_capacity 1 (some .int) ∈ GW := gw_mem 381 (by decide +kernel) (by decide +kernel)
theorem gw_383 : Cond.instanceMethod yX7_gapStart ∈ GW := gw_mem 383 (by decide +kernel) (by decide +kernel)
theorem gw_384 : Cond.selects RX7 yX7_gapStart yX7_gapStart ∈ GW := gw_mem 384 (by decide +kernel) (by decide +kernel)
theorem gw_385 : Cond.code yX7_gapStart cX7_gapStart 1 (some .int) ∈ GW := gw_mem 385 (by decide +kernel) (by decide +kernel)
theorem gw_387 : Cond.instanceMethod yX7_carried ∈ GW := gw_mem 387 (by decide +kernel) (by decide +kernel)
theorem gw_388 : Cond.selects RX7 yX7_carried yX7_carried ∈ GW := gw_mem 388 (by decide +kernel) (by decide +kernel)
theorem gw_389 : Cond.code yX7_carried cX7_carried 1 (some .int) ∈ GW := gw_mem 389 (by decide +kernel) (by decide +kernel)
theorem gw_391 : Cond.instanceMethod yX7_copied ∈ GW := gw_mem 391 (by decide +kernel) (by decide +kernel)
theorem gw_392 : Cond.selects RX7 yX7_copied yX7_copied ∈ GW := gw_mem 392 (by decide +kernel) (by decide +kernel)
theorem gw_393 : Cond.code yX7_copied cX7_copied 1 (some .int) ∈ GW := gw_mem 393 (by decide +kernel) (by decide +kernel)
theorem gw_395 : Cond.instanceMethod yX7_growths ∈ GW := gw_mem 395 (by decide +kernel) (by decide +kernel)
theorem gw_396 : Cond.selects RX7 yX7_growths yX7_growths ∈ GW := gw_mem 396 (by decide +kernel) (by decide +kernel)
theorem gw_397 : Cond.code yX7_growths cX7_growths 1 (some .int) ∈ GW := gw_mem 397 (by decide +kernel) (by decide +kernel)
theorem gw_399 : Cond.instanceMethod yX7_shrinks ∈ GW := gw_mem 399 (by decide +kernel) (by decide +kernel)
theorem gw_400 : Cond.selects RX7 yX7_shrinks yX7_shrinks ∈ GW := gw_mem 400 (by decide +kernel) (by decide +kernel)
theorem gw_401 : Cond.code yX7_shrinks cX7_shrinks 1 (some .int) ∈ GW := gw_mem 401 (by decide +kernel) (by decide +kernel)
theorem gw_403 : Cond.instanceMethod yX7_room ∈ GW := gw_mem 403 (by decide +kernel) (by decide +kernel)
theorem gw_404 : Cond.selects RX7 yX7_room yX7_room ∈ GW := gw_mem 404 (by decide +kernel) (by decide +kernel)
theorem gw_405 : Cond.code yX7_room cX7_room 1 (some .int) ∈ GW := gw_mem 405 (by decide +kernel) (by decide +kernel)
theorem gw_407 : Cond.instanceMethod yX7_clearCommands ∈ GW := gw_mem 407 (by decide +kernel) (by decide +kernel)
theorem gw_408 : Cond.selects RX7 yX7_clearCommands yX7_clearCommands ∈ GW := gw_mem 408 (by decide +kernel) (by decide +kernel)
theorem gw_409 : Cond.code yX7_clearCommands cX7_clearCommands 2 (some .int) ∈ GW := gw_mem 409 (by decide +kernel) (by decide +kernel)
theorem gw_415 : Cond.instanceMethod yX7_firstError ∈ GW := gw_mem 415 (by decide +kernel) (by decide +kernel)
theorem gw_416 : Cond.selects RX7 yX7_firstError yX7_firstError ∈ GW := gw_mem 416 (by decide +kernel) (by decide +kernel)
theorem gw_417 : Cond.code yX7_firstError cX7_firstError 1 (some .int) ∈ GW := gw_mem 417 (by decide +kernel) (by decide +kernel)
theorem gw_463 : Cond.instanceMethod yX7_savedStates ∈ GW := gw_mem 463 (by decide +kernel) (by decide +kernel)
theorem gw_464 : Cond.selects RX7 yX7_savedStates yX7_savedStates ∈ GW := gw_mem 464 (by decide +kernel) (by decide +kernel)
theorem gw_465 : Cond.code yX7_savedStates cX7_savedStates 1 (some .int) ∈ GW := gw_mem 465 (by decide +kernel) (by decide +kernel)
theorem gw_471 : Cond.instanceMethod yX7_digest ∈ GW := gw_mem 471 (by decide +kernel) (by decide +kernel)
theorem gw_472 : Cond.selects RX7 yX7_digest yX7_digest ∈ GW := gw_mem 472 (by decide +kernel) (by decide +kernel)
theorem gw_473 : Cond.code yX7_digest cX7_digest 1 (some .long) ∈ GW := gw_mem 473 (by decide +kernel) (by decide +kernel)
theorem gw_492 : Cond.classLink RL 13 "java/lang/IllegalArgumentException" ∈ GW := gw_mem 492 (by decide +kernel) (by decide +kernel)
theorem gw_493 : Cond.classLink RL 15 "java/lang/IllegalStateException" ∈ GW := gw_mem 493 (by decide +kernel) (by decide +kernel)
theorem gw_494 : Cond.methodLink RL 7 yX7_type ∈ GW := gw_mem 494 (by decide +kernel) (by decide +kernel)
theorem gw_495 : Cond.instanceMethod yX7_type ∈ GW := gw_mem 495 (by decide +kernel) (by decide +kernel)
theorem gw_496 : Cond.selects RX7 yX7_type yX7_type ∈ GW := gw_mem 496 (by decide +kernel) (by decide +kernel)
theorem gw_497 : Cond.code yX7_type cX7_type 2 (some .int) ∈ GW := gw_mem 497 (by decide +kernel) (by decide +kernel)
theorem nw_506 : Cond.castable "java/lang/IllegalArgumentException" "java/lang/IllegalArgumentException" ∈ NW := nw_mem 506 (by decide +kernel) (by decide +kernel)
theorem nw_576 : Cond.castable "java/lang/IllegalStateException" "java/lang/IllegalStateException" ∈ NW := nw_mem 576 (by decide +kernel) (by decide +kernel)
theorem gw_617 : Cond.methodLink RL 17 yX7_fill ∈ GW := gw_mem 617 (by decide +kernel) (by decide +kernel)
theorem gw_618 : Cond.instanceMethod yX7_fill ∈ GW := gw_mem 618 (by decide +kernel) (by decide +kernel)
theorem gw_619 : Cond.selects RX7 yX7_fill yX7_fill ∈ GW := gw_mem 619 (by decide +kernel) (by decide +kernel)
theorem gw_620 : Cond.code yX7_fill cX7_fill 3 (some .int) ∈ GW := gw_mem 620 (by decide +kernel) (by decide +kernel)
theorem gw_627 : Cond.methodLink RL 21 yX7_erase ∈ GW := gw_mem 627 (by decide +kernel) (by decide +kernel)
theorem gw_628 : Cond.instanceMethod yX7_erase ∈ GW := gw_mem 628 (by decide +kernel) (by decide +kernel)
theorem gw_629 : Cond.selects RX7 yX7_erase yX7_erase ∈ GW := gw_mem 629 (by decide +kernel) (by decide +kernel)
theorem gw_630 : Cond.code yX7_erase cX7_erase 2 (some .int) ∈ GW := gw_mem 630 (by decide +kernel) (by decide +kernel)
theorem gw_659 : Cond.methodLink RL 24 yX7_backspace ∈ GW := gw_mem 659 (by decide +kernel) (by decide +kernel)
theorem gw_660 : Cond.instanceMethod yX7_backspace ∈ GW := gw_mem 660 (by decide +kernel) (by decide +kernel)
theorem gw_661 : Cond.selects RX7 yX7_backspace yX7_backspace ∈ GW := gw_mem 661 (by decide +kernel) (by decide +kernel)
theorem gw_662 : Cond.code yX7_backspace cX7_backspace 2 (some .int) ∈ GW := gw_mem 662 (by decide +kernel) (by decide +kernel)
theorem gw_670 : Cond.classLink RL 30 "java/lang/IndexOutOfBoundsException" ∈ GW := gw_mem 670 (by decide +kernel) (by decide +kernel)
theorem gw_671 : Cond.methodLink RL 27 yX7_moveTo ∈ GW := gw_mem 671 (by decide +kernel) (by decide +kernel)
theorem gw_672 : Cond.instanceMethod yX7_moveTo ∈ GW := gw_mem 672 (by decide +kernel) (by decide +kernel)
theorem gw_673 : Cond.selects RX7 yX7_moveTo yX7_moveTo ∈ GW := gw_mem 673 (by decide +kernel) (by decide +kernel)
theorem gw_674 : Cond.code yX7_moveTo cX7_moveTo 2 (some .int) ∈ GW := gw_mem 674 (by decide +kernel) (by decide +kernel)
theorem nw_684 : Cond.castable "java/lang/IndexOutOfBoundsException" "java/lang/IndexOutOfBoundsException" ∈ NW := nw_mem 684 (by decide +kernel) (by decide +kernel)
theorem gw_700 : Cond.methodLink RL 32 yX7_moveBy ∈ GW := gw_mem 700 (by decide +kernel) (by decide +kernel)
theorem gw_701 : Cond.instanceMethod yX7_moveBy ∈ GW := gw_mem 701 (by decide +kernel) (by decide +kernel)
theorem gw_702 : Cond.selects RX7 yX7_moveBy yX7_moveBy ∈ GW := gw_mem 702 (by decide +kernel) (by decide +kernel)
theorem gw_703 : Cond.code yX7_moveBy cX7_moveBy 2 (some .int) ∈ GW := gw_mem 703 (by decide +kernel) (by decide +kernel)
theorem gw_709 : Cond.methodLink RL 35 yX7_setMark ∈ GW := gw_mem 709 (by decide +kernel) (by decide +kernel)
theorem gw_710 : Cond.instanceMethod yX7_setMark ∈ GW := gw_mem 710 (by decide +kernel) (by decide +kernel)
theorem gw_711 : Cond.selects RX7 yX7_setMark yX7_setMark ∈ GW := gw_mem 711 (by decide +kernel) (by decide +kernel)
theorem gw_712 : Cond.code yX7_setMark cX7_setMark 4 (some .int) ∈ GW := gw_mem 712 (by decide +kernel) (by decide +kernel)
theorem gw_719 : Cond.methodLink RL 38 yX7_copy ∈ GW := gw_mem 719 (by decide +kernel) (by decide +kernel)
theorem gw_720 : Cond.instanceMethod yX7_copy ∈ GW := gw_mem 720 (by decide +kernel) (by decide +kernel)
theorem gw_721 : Cond.selects RX7 yX7_copy yX7_copy ∈ GW := gw_mem 721 (by decide +kernel) (by decide +kernel)
theorem gw_722 : Cond.code yX7_copy cX7_copy 2 (some .int) ∈ GW := gw_mem 722 (by decide +kernel) (by decide +kernel)
theorem gw_736 : Cond.methodLink RL 41 yX7_cut ∈ GW := gw_mem 736 (by decide +kernel) (by decide +kernel)
theorem gw_737 : Cond.instanceMethod yX7_cut ∈ GW := gw_mem 737 (by decide +kernel) (by decide +kernel)
theorem gw_738 : Cond.selects RX7 yX7_cut yX7_cut ∈ GW := gw_mem 738 (by decide +kernel) (by decide +kernel)
theorem gw_739 : Cond.code yX7_cut cX7_cut 2 (some .int) ∈ GW := gw_mem 739 (by decide +kernel) (by decide +kernel)
theorem gw_748 : Cond.methodLink RL 44 yX7_paste ∈ GW := gw_mem 748 (by decide +kernel) (by decide +kernel)
theorem gw_749 : Cond.instanceMethod yX7_paste ∈ GW := gw_mem 749 (by decide +kernel) (by decide +kernel)
theorem gw_750 : Cond.selects RX7 yX7_paste yX7_paste ∈ GW := gw_mem 750 (by decide +kernel) (by decide +kernel)
theorem gw_751 : Cond.code yX7_paste cX7_paste 1 (some .int) ∈ GW := gw_mem 751 (by decide +kernel) (by decide +kernel)
theorem gw_764 : Cond.methodLink RL 48 yX7_mark ∈ GW := gw_mem 764 (by decide +kernel) (by decide +kernel)
theorem gw_765 : Cond.instanceMethod yX7_mark ∈ GW := gw_mem 765 (by decide +kernel) (by decide +kernel)
theorem gw_766 : Cond.selects RX7 yX7_mark yX7_mark ∈ GW := gw_mem 766 (by decide +kernel) (by decide +kernel)
theorem gw_767 : Cond.code yX7_mark cX7_mark 2 (some .int) ∈ GW := gw_mem 767 (by decide +kernel) (by decide +kernel)
theorem gw_771 : Cond.methodLink RL 51 yX7_clip ∈ GW := gw_mem 771 (by decide +kernel) (by decide +kernel)
theorem gw_772 : Cond.instanceMethod yX7_clip ∈ GW := gw_mem 772 (by decide +kernel) (by decide +kernel)
theorem gw_773 : Cond.selects RX7 yX7_clip yX7_clip ∈ GW := gw_mem 773 (by decide +kernel) (by decide +kernel)
theorem gw_774 : Cond.code yX7_clip cX7_clip 2 (some .int) ∈ GW := gw_mem 774 (by decide +kernel) (by decide +kernel)
theorem gw_779 : Cond.methodLink RL 54 yX7_find ∈ GW := gw_mem 779 (by decide +kernel) (by decide +kernel)
theorem gw_780 : Cond.instanceMethod yX7_find ∈ GW := gw_mem 780 (by decide +kernel) (by decide +kernel)
theorem gw_781 : Cond.selects RX7 yX7_find yX7_find ∈ GW := gw_mem 781 (by decide +kernel) (by decide +kernel)
theorem gw_782 : Cond.code yX7_find cX7_find 2 (some .int) ∈ GW := gw_mem 782 (by decide +kernel) (by decide +kernel)
theorem gw_794 : Cond.methodLink RL 57 yX7_byteAt ∈ GW := gw_mem 794 (by decide +kernel) (by decide +kernel)
theorem gw_795 : Cond.instanceMethod yX7_byteAt ∈ GW := gw_mem 795 (by decide +kernel) (by decide +kernel)
theorem gw_796 : Cond.selects RX7 yX7_byteAt yX7_byteAt ∈ GW := gw_mem 796 (by decide +kernel) (by decide +kernel)
theorem gw_797 : Cond.code yX7_byteAt cX7_byteAt 2 (some .int) ∈ GW := gw_mem 797 (by decide +kernel) (by decide +kernel)
theorem gw_801 : Cond.methodLink RL 60 yX7_lineOf ∈ GW := gw_mem 801 (by decide +kernel) (by decide +kernel)
theorem gw_802 : Cond.instanceMethod yX7_lineOf ∈ GW := gw_mem 802 (by decide +kernel) (by decide +kernel)
theorem gw_803 : Cond.selects RX7 yX7_lineOf yX7_lineOf ∈ GW := gw_mem 803 (by decide +kernel) (by decide +kernel)
theorem gw_804 : Cond.code yX7_lineOf cX7_lineOf 2 (some .int) ∈ GW := gw_mem 804 (by decide +kernel) (by decide +kernel)
theorem gw_809 : Cond.methodLink RL 63 yX7_columnOf ∈ GW := gw_mem 809 (by decide +kernel) (by decide +kernel)
theorem gw_810 : Cond.instanceMethod yX7_columnOf ∈ GW := gw_mem 810 (by decide +kernel) (by decide +kernel)
theorem gw_811 : Cond.selects RX7 yX7_columnOf yX7_columnOf ∈ GW := gw_mem 811 (by decide +kernel) (by decide +kernel)
theorem gw_812 : Cond.code yX7_columnOf cX7_columnOf 2 (some .int) ∈ GW := gw_mem 812 (by decide +kernel) (by decide +kernel)
theorem gw_816 : Cond.methodLink RL 66 yX7_lineStart ∈ GW := gw_mem 816 (by decide +kernel) (by decide +kernel)
theorem gw_817 : Cond.instanceMethod yX7_lineStart ∈ GW := gw_mem 817 (by decide +kernel) (by decide +kernel)
theorem gw_818 : Cond.selects RX7 yX7_lineStart yX7_lineStart ∈ GW := gw_mem 818 (by decide +kernel) (by decide +kernel)
theorem gw_819 : Cond.code yX7_lineStart cX7_lineStart 2 (some .int) ∈ GW := gw_mem 819 (by decide +kernel) (by decide +kernel)
theorem gw_832 : Cond.methodLink RL 69 yX7_lineLength ∈ GW := gw_mem 832 (by decide +kernel) (by decide +kernel)
theorem gw_833 : Cond.instanceMethod yX7_lineLength ∈ GW := gw_mem 833 (by decide +kernel) (by decide +kernel)
theorem gw_834 : Cond.selects RX7 yX7_lineLength yX7_lineLength ∈ GW := gw_mem 834 (by decide +kernel) (by decide +kernel)
theorem gw_835 : Cond.code yX7_lineLength cX7_lineLength 3 (some .int) ∈ GW := gw_mem 835 (by decide +kernel) (by decide +kernel)
theorem gw_839 : Cond.methodLink RL 72 yX7_cell ∈ GW := gw_mem 839 (by decide +kernel) (by decide +kernel)
theorem gw_840 : Cond.instanceMethod yX7_cell ∈ GW := gw_mem 840 (by decide +kernel) (by decide +kernel)
theorem gw_841 : Cond.selects RX7 yX7_cell yX7_cell ∈ GW := gw_mem 841 (by decide +kernel) (by decide +kernel)
theorem gw_842 : Cond.code yX7_cell cX7_cell 2 (some .int) ∈ GW := gw_mem 842 (by decide +kernel) (by decide +kernel)
theorem gw_850 : Cond.methodLink RL 75 yX7_costOf ∈ GW := gw_mem 850 (by decide +kernel) (by decide +kernel)
theorem gw_851 : Cond.instanceMethod yX7_costOf ∈ GW := gw_mem 851 (by decide +kernel) (by decide +kernel)
theorem gw_852 : Cond.selects RX7 yX7_costOf yX7_costOf ∈ GW := gw_mem 852 (by decide +kernel) (by decide +kernel)
theorem gw_853 : Cond.code yX7_costOf cX7_costOf 3 (some .int) ∈ GW := gw_mem 853 (by decide +kernel) (by decide +kernel)
theorem gw_863 : Cond.methodLink RL 78 yX7_costOfTwo ∈ GW := gw_mem 863 (by decide +kernel) (by decide +kernel)
theorem gw_864 : Cond.instanceMethod yX7_costOfTwo ∈ GW := gw_mem 864 (by decide +kernel) (by decide +kernel)
theorem gw_865 : Cond.selects RX7 yX7_costOfTwo yX7_costOfTwo ∈ GW := gw_mem 865 (by decide +kernel) (by decide +kernel)
theorem gw_866 : Cond.code yX7_costOfTwo cX7_costOfTwo 4 (some .int) ∈ GW := gw_mem 866 (by decide +kernel) (by decide +kernel)
theorem gw_870 : Cond.methodLink RL 81 yX7_append ∈ GW := gw_mem 870 (by decide +kernel) (by decide +kernel)
theorem gw_871 : Cond.instanceMethod yX7_append ∈ GW := gw_mem 871 (by decide +kernel) (by decide +kernel)
theorem gw_872 : Cond.selects RX7 yX7_append yX7_append ∈ GW := gw_mem 872 (by decide +kernel) (by decide +kernel)
theorem gw_873 : Cond.code yX7_append cX7_append 2 (some .int) ∈ GW := gw_mem 873 (by decide +kernel) (by decide +kernel)
theorem gw_883 : Cond.methodLink RL 84 yX7_run ∈ GW := gw_mem 883 (by decide +kernel) (by decide +kernel)
theorem gw_884 : Cond.instanceMethod yX7_run ∈ GW := gw_mem 884 (by decide +kernel) (by decide +kernel)
theorem gw_885 : Cond.selects RX7 yX7_run yX7_run ∈ GW := gw_mem 885 (by decide +kernel) (by decide +kernel)
theorem gw_886 : Cond.code yX7_run cX7_run 2 (some .int) ∈ GW := gw_mem 886 (by decide +kernel) (by decide +kernel)
theorem gw_926 : Cond.methodLink RL 87 yX7_undo ∈ GW := gw_mem 926 (by decide +kernel) (by decide +kernel)
theorem gw_927 : Cond.instanceMethod yX7_undo ∈ GW := gw_mem 927 (by decide +kernel) (by decide +kernel)
theorem gw_928 : Cond.selects RX7 yX7_undo yX7_undo ∈ GW := gw_mem 928 (by decide +kernel) (by decide +kernel)
theorem gw_929 : Cond.code yX7_undo cX7_undo 1 (some .int) ∈ GW := gw_mem 929 (by decide +kernel) (by decide +kernel)
theorem gm_X7_append : gm_ yX7_append cX7_append 2 (some .int) 1 := ⟨gw_871, gw_872, gw_59, gw_873, by decide +kernel⟩
theorem gm_X7_backspace : gm_ yX7_backspace cX7_backspace 2 (some .int) 1 := ⟨gw_660, gw_661, gw_59, gw_662, by decide +kernel⟩
theorem gm_X7_byteAt : gm_ yX7_byteAt cX7_byteAt 2 (some .int) 1 := ⟨gw_795, gw_796, gw_59, gw_797, by decide +kernel⟩
theorem gm_X7_capacity : gm_ yX7_capacity cX7_capacity 1 (some .int) 0 := ⟨gw_379, gw_380, gw_59, gw_381, by decide +kernel⟩
theorem gm_X7_caret : gm_ yX7_caret cX7_caret 1 (some .int) 0 := ⟨gw_363, gw_364, gw_59, gw_365, by decide +kernel⟩
theorem gm_X7_carried : gm_ yX7_carried cX7_carried 1 (some .int) 0 := ⟨gw_387, gw_388, gw_59, gw_389, by decide +kernel⟩
theorem gm_X7_cell : gm_ yX7_cell cX7_cell 2 (some .int) 1 := ⟨gw_840, gw_841, gw_59, gw_842, by decide +kernel⟩
theorem gm_X7_clearCommands : gm_ yX7_clearCommands cX7_clearCommands 2 (some .int) 0 := ⟨gw_407, gw_408, gw_59, gw_409, by decide +kernel⟩
theorem gm_X7_clip : gm_ yX7_clip cX7_clip 2 (some .int) 1 := ⟨gw_772, gw_773, gw_59, gw_774, by decide +kernel⟩
theorem gm_X7_columnOf : gm_ yX7_columnOf cX7_columnOf 2 (some .int) 1 := ⟨gw_810, gw_811, gw_59, gw_812, by decide +kernel⟩
theorem gm_X7_copied : gm_ yX7_copied cX7_copied 1 (some .int) 0 := ⟨gw_391, gw_392, gw_59, gw_393, by decide +kernel⟩
theorem gm_X7_copy : gm_ yX7_copy cX7_copy 2 (some .int) 1 := ⟨gw_720, gw_721, gw_59, gw_722, by decide +kernel⟩
theorem gm_X7_costOf : gm_ yX7_costOf cX7_costOf 3 (some .int) 2 := ⟨gw_851, gw_852, gw_59, gw_853, by decide +kernel⟩
theorem gm_X7_costOfTwo : gm_ yX7_costOfTwo cX7_costOfTwo 4 (some .int) 2 := ⟨gw_864, gw_865, gw_59, gw_866, by decide +kernel⟩
theorem gm_X7_cut : gm_ yX7_cut cX7_cut 2 (some .int) 1 := ⟨gw_737, gw_738, gw_59, gw_739, by decide +kernel⟩
theorem gm_X7_digest : gm_ yX7_digest cX7_digest 1 (some .long) 0 := ⟨gw_471, gw_472, gw_59, gw_473, by decide +kernel⟩
theorem gm_X7_down : gm_ yX7_down cX7_down 1 (some .int) 0 := ⟨gw_331, gw_332, gw_59, gw_333, by decide +kernel⟩
theorem gm_X7_erase : gm_ yX7_erase cX7_erase 2 (some .int) 1 := ⟨gw_628, gw_629, gw_59, gw_630, by decide +kernel⟩
theorem gm_X7_fill : gm_ yX7_fill cX7_fill 3 (some .int) 2 := ⟨gw_618, gw_619, gw_59, gw_620, by decide +kernel⟩
theorem gm_X7_find : gm_ yX7_find cX7_find 2 (some .int) 1 := ⟨gw_780, gw_781, gw_59, gw_782, by decide +kernel⟩
theorem gm_X7_firstError : gm_ yX7_firstError cX7_firstError 1 (some .int) 0 := ⟨gw_415, gw_416, gw_59, gw_417, by decide +kernel⟩
theorem gm_X7_gapStart : gm_ yX7_gapStart cX7_gapStart 1 (some .int) 0 := ⟨gw_383, gw_384, gw_59, gw_385, by decide +kernel⟩
theorem gm_X7_growths : gm_ yX7_growths cX7_growths 1 (some .int) 0 := ⟨gw_395, gw_396, gw_59, gw_397, by decide +kernel⟩
theorem gm_X7_length : gm_ yX7_length cX7_length 1 (some .int) 0 := ⟨gw_358, gw_359, gw_59, gw_360, by decide +kernel⟩
theorem gm_X7_lineLength : gm_ yX7_lineLength cX7_lineLength 3 (some .int) 1 := ⟨gw_833, gw_834, gw_59, gw_835, by decide +kernel⟩
theorem gm_X7_lineOf : gm_ yX7_lineOf cX7_lineOf 2 (some .int) 1 := ⟨gw_802, gw_803, gw_59, gw_804, by decide +kernel⟩
theorem gm_X7_lineStart : gm_ yX7_lineStart cX7_lineStart 2 (some .int) 1 := ⟨gw_817, gw_818, gw_59, gw_819, by decide +kernel⟩
theorem gm_X7_lines : gm_ yX7_lines cX7_lines 1 (some .int) 0 := ⟨gw_367, gw_368, gw_59, gw_369, by decide +kernel⟩
theorem gm_X7_mark : gm_ yX7_mark cX7_mark 2 (some .int) 1 := ⟨gw_765, gw_766, gw_59, gw_767, by decide +kernel⟩
theorem gm_X7_moveBy : gm_ yX7_moveBy cX7_moveBy 2 (some .int) 1 := ⟨gw_701, gw_702, gw_59, gw_703, by decide +kernel⟩
theorem gm_X7_moveInLine : gm_ yX7_moveInLine cX7_moveInLine 4 (some .int) 1 := ⟨gw_339, gw_340, gw_59, gw_341, by decide +kernel⟩
theorem gm_X7_moveTo : gm_ yX7_moveTo cX7_moveTo 2 (some .int) 1 := ⟨gw_672, gw_673, gw_59, gw_674, by decide +kernel⟩
theorem gm_X7_paste : gm_ yX7_paste cX7_paste 1 (some .int) 0 := ⟨gw_749, gw_750, gw_59, gw_751, by decide +kernel⟩
theorem gm_X7_room : gm_ yX7_room cX7_room 1 (some .int) 0 := ⟨gw_403, gw_404, gw_59, gw_405, by decide +kernel⟩
theorem gm_X7_run : gm_ yX7_run cX7_run 2 (some .int) 0 := ⟨gw_884, gw_885, gw_59, gw_886, by decide +kernel⟩
theorem gm_X7_savedStates : gm_ yX7_savedStates cX7_savedStates 1 (some .int) 0 := ⟨gw_463, gw_464, gw_59, gw_465, by decide +kernel⟩
theorem gm_X7_setEager : gm_ yX7_setEager cX7_setEager 2 (some .int) 1 := ⟨gw_353, gw_354, gw_59, gw_355, by decide +kernel⟩
theorem gm_X7_setMark : gm_ yX7_setMark cX7_setMark 4 (some .int) 2 := ⟨gw_710, gw_711, gw_59, gw_712, by decide +kernel⟩
theorem gm_X7_shrinks : gm_ yX7_shrinks cX7_shrinks 1 (some .int) 0 := ⟨gw_399, gw_400, gw_59, gw_401, by decide +kernel⟩
theorem gm_X7_type : gm_ yX7_type cX7_type 2 (some .int) 1 := ⟨gw_495, gw_496, gw_59, gw_497, by decide +kernel⟩
theorem gm_X7_undo : gm_ yX7_undo cX7_undo 1 (some .int) 0 := ⟨gw_927, gw_928, gw_59, gw_929, by decide +kernel⟩
theorem gm_X7_up : gm_ yX7_up cX7_up 1 (some .int) 0 := ⟨gw_258, gw_259, gw_59, gw_260, by decide +kernel⟩
theorem fst_X20 {cI cS : ClassId} {hh : Nat → Nat} {hX hC hX' hC' : Int32} {hR hR' : Nat → StT} : (wX2 cI cS hh hX' hC' hR').map Prod.fst = (wX2 cI cS hh hX hC hR).map Prod.fst := fst_app (a := wX2h cS hh hX hC) (a' := wX2h cS hh hX' hC') rfl (fst_app fst_X6 (fst_app fst_X6 (fst_app fst_X6 (fst_app fst_X6 (fst_app fst_X6 (fst_app fst_X6 rfl))))))
theorem fst_X7 {cI cS : ClassId} {hh : Nat → Nat} {vCar : Int32} {vGoa : Int32} {vEag : Int32} {tN : Int32} {tF : Nat → Int32} {cN : Int32} {cF : Nat → Int32} {mP : Nat → Int32} {mS : Nat → Int32} {kCap : Int32} {kGap : Int32} {kCar : Int32} {kCop : Int32} {kGro : Int32} {kShr : Int32} {bN : Int32} {bF : Nat → Int32} {rCmd : Int32} {rLet : Int32} {rNum : Int32} {fCap : Int32} {fGap : Int32} {fCar : Int32} {fCop : Int32} {fGro : Int32} {fShr : Int32} {hX : Int32} {hC : Int32} {hR : Nat → StT} {vCar' : Int32} {vGoa' : Int32} {vEag' : Int32} {tN' : Int32} {tF' : Nat → Int32} {cN' : Int32} {cF' : Nat → Int32} {mP' : Nat → Int32} {mS' : Nat → Int32} {kCap' : Int32} {kGap' : Int32} {kCar' : Int32} {kCop' : Int32} {kGro' : Int32} {kShr' : Int32} {bN' : Int32} {bF' : Nat → Int32} {rCmd' : Int32} {rLet' : Int32} {rNum' : Int32} {fCap' : Int32} {fGap' : Int32} {fCar' : Int32} {fCop' : Int32} {fGro' : Int32} {fShr' : Int32} {hX' : Int32} {hC' : Int32} {hR' : Nat → StT} : (wX7 cI cS hh vCar' vGoa' vEag' tN' tF' cN' cF' mP' mS' kCap' kGap' kCar' kCop' kGro' kShr' bN' bF' rCmd' rLet' rNum' fCap' fGap' fCar' fCop' fGro' fShr' hX' hC' hR').map Prod.fst = (wX7 cI cS hh vCar vGoa vEag tN tF cN cF mP mS kCap kGap kCar kCop kGro kShr bN bF rCmd rLet rNum fCap fGap fCar fCop fGro fShr hX hC hR).map Prod.fst := congrArg (List.cons (hh 0)) (fst_app fst_X6 (fst_app (a := wX1 cI (hh 10) (hh 11) (hh 12) (hh 13) bN bF rCmd rLet rNum) (a' := wX1 cI (hh 10) (hh 11) (hh 12) (hh 13) bN' bF' rCmd' rLet' rNum') rfl (fst_app (a := wX3 cI (hh 14) fCap fGap fCar fCop fGro fShr) (a' := wX3 cI (hh 14) fCap' fGap' fCar' fCop' fGro' fShr') rfl fst_X20)))
abbrev rw_L_append : Room := { frames := 8, cells := 1, slots := 6, locals := 122 }
set_option maxRecDepth 100000 in
set_option maxHeartbeats 4000000 in
theorem k_L_append (l : Launch) (D : va_G) (cI cS cL : ClassId) (Z : Nat) (hh : Nat → Nat) (ho : Nat) (p1 : Int32) (vCar : Int32) (vGoa : Int32) (vEag : Int32) (tN : Int32) (tF : Nat → Int32) (cN : Int32) (cF : Nat → Int32) (mP : Nat → Int32) (mS : Nat → Int32) (kCap : Int32) (kGap : Int32) (kCar : Int32) (kCop : Int32) (kGro : Int32) (kShr : Int32) (bN : Int32) (bF : Nat → Int32) (rCmd : Int32) (rLet : Int32) (rNum : Int32) (fCap : Int32) (fGap : Int32) (fCar : Int32) (fCop : Int32) (fGro : Int32) (fShr : Int32) (hX : Int32) (hC : Int32) (hR : Nat → StT) (oF : Nat → Int64) {r : Int32} {bN' : Int32} {bF' : Nat → Int32} (h : f_X7_append Z p1 bN bF = some (.inl (r, bN', bF'))) : CWI l yL_append cL_append 4 rw_L_append [(0, 9, 12, 13), (0, 9, 15, 15)] D cI cS cL [.ref (hh 0), .int p1, .ref ho] ((ho, .inl (cL, 1, .inr (.inl oF))) :: wX7 cI cS hh vCar vGoa vEag tN tF cN cF mP mS kCap kGap kCar kCop kGro kShr bN bF rCmd rLet rNum fCap fGap fCar fCop fGro fShr hX hC hR) ((ho, .inl (cL, 1, .inr (.inl (vp_updL oF 0 (r : Int32).toInt64)))) :: wX7 cI cS hh vCar vGoa vEag tN tF cN cF mP mS kCap kGap kCar kCop kGro kShr bN' bF' rCmd rLet rNum fCap fGap fCar fCop fGro fShr hX hC hR) 0 := by
  refine ent_w (by decide +kernel) (Nat.le_of_ble_eq_true rfl) ?_
  intro p e s m args below meth c A ls hx hb hr hml hlocks hg hown hK hP hD hS hA hl htab hZ
  have hown : s.vm.findClass RL = some m.cls := hown
  have hl : lv_has ls 4 [(0, .ref (hh 0)), (1, .int p1), (2, .ref ho)] := hl
  have hP : va_P D vwCl ((ho, .inl (cL, 1, .inr (.inl oF))) :: wX7 cI cS hh vCar vGoa vEag tN tF cN cF mP mS kCap kGap kCar kCop kGro kShr bN bF rCmd rLet rNum fCap fGap fCar fCop fGro fShr hX hC hR) s.heap := hP
  have hD : va_D A ((ho, .inl (cL, 1, .inr (.inl oF))) :: wX7 cI cS hh vCar vGoa vEag tN tF cN cF mP mS kCap kGap kCar kCop kGro kShr bN bF rCmd rLet rNum fCap fGap fCar fCop fGro fShr hX hC hR) := hD
  refine lv_aload_n hx hb dL_append_0 rfl (lv_at hl 2 rfl) ?_
  refine lv_iconst (v := 0) hx hb dL_append_1 (by decide) ?_
  refine lv_aload_n hx hb dL_append_2 rfl (lv_at hl 0 rfl) ?_
  refine lv_iload_n hx hb dL_append_3 rfl (lv_at hl 1 rfl) ?_
  refine cP_i (As := [.int p1]) (rest := [.int 0, .ref ho]) (wc := wX7 cI cS hh vCar vGoa vEag tN tF cN cF mP mS kCap kGap kCar kCop kGro kShr bN bF rCmd rLet rNum fCap fGap fCar fCop fGro fShr hX hC hR) (wc' := wX7 cI cS hh vCar vGoa vEag tN tF cN cF mP mS kCap kGap kCar kCop kGro kShr bN' bF' rCmd rLet rNum fCap fGap fCar fCop fGro fShr hX hC hR) (ws' := ((ho, .inl (cL, 1, .inr (.inl oF))) :: wX7 cI cS hh vCar vGoa vEag tN tF cN cF mP mS kCap kGap kCar kCop kGro kShr bN' bF' rCmd rLet rNum fCap fGap fCar fCop fGro fShr hX hC hR)) hx hb hml hown hg hK hP hD hS hA hl.1 (k_X7_append l D cI cS cL Z hh p1 vCar vGoa vEag tN tF cN cF mP mS kCap kGap kCar kCop kGro kShr bN bF rCmd rLet rNum fCap fGap fCar fCop fGro fShr hX hC hR h) gm_X7_append gw_870 ⟨rfl, rfl, by decide, by decide⟩ ⟨Nat.zero_le _, Nat.zero_le _⟩ pm_o pm_o fst_X7 rfl rfl rfl rfl rfl (Nat.le_of_ble_eq_true rfl) dL_append_4 (fun H locs hP hD hS => ?_)
  refine lv_i2l (v := (r : Int32).toInt64) hx hb dL_append_7 rfl ?_
  refine va_last hx hb hK.1 hP hD hS 0 2 rfl rfl (i := 0) (vp_in_nI (n := 0) (by decide) (by decide)) dL_append_8 (fun H locs hP hD hS => ?_)
  have hP : va_P D vwCl ((ho, .inl (cL, 1, .inr (.inl (vp_updL oF 0 (r : Int32).toInt64)))) :: wX7 cI cS hh vCar vGoa vEag tN tF cN cF mP mS kCap kGap kCar kCop kGro kShr bN' bF' rCmd rLet rNum fCap fGap fCar fCop fGro fShr hX hC hR) H := hP
  have hD : va_D A ((ho, .inl (cL, 1, .inr (.inl (vp_updL oF 0 (r : Int32).toInt64)))) :: wX7 cI cS hh vCar vGoa vEag tN tF cN cF mP mS kCap kGap kCar kCop kGro kShr bN' bF' rCmd rLet rNum fCap fGap fCar fCop fGro fShr hX hC hR) := hD
  refine lv_goto (tgt := 18) hx hb dL_append_9 (by decide) ?_
  refine lv_iconst (v := 0) hx hb dL_append_18 (by decide) ?_
  exact ret_w hx hb hr hlocks hP hD hS (by decide) (by decide) dL_append_19 rfl
set_option maxRecDepth 100000 in
set_option maxHeartbeats 4000000 in
theorem t1_L_append (l : Launch) (hlt : l.stackTraces = false) (D : va_G) (cI cS cL : ClassId) (Z : Nat) (hh : Nat → Nat) (ho : Nat) (p1 : Int32) (vCar : Int32) (vGoa : Int32) (vEag : Int32) (tN : Int32) (tF : Nat → Int32) (cN : Int32) (cF : Nat → Int32) (mP : Nat → Int32) (mS : Nat → Int32) (kCap : Int32) (kGap : Int32) (kCar : Int32) (kCop : Int32) (kGro : Int32) (kShr : Int32) (bN : Int32) (bF : Nat → Int32) (rCmd : Int32) (rLet : Int32) (rNum : Int32) (fCap : Int32) (fGap : Int32) (fCar : Int32) (fCop : Int32) (fGro : Int32) (fShr : Int32) (hX : Int32) (hC : Int32) (hR : Nat → StT) (oF : Nat → Int64)  (h : f_X7_append Z p1 bN bF = some (.inr "java/lang/IllegalArgumentException")) : CWI l yL_append cL_append 4 rw_L_append [(0, 9, 12, 13), (0, 9, 15, 15)] D cI cS cL [.ref (hh 0), .int p1, .ref ho] ((ho, .inl (cL, 1, .inr (.inl oF))) :: wX7 cI cS hh vCar vGoa vEag tN tF cN cF mP mS kCap kGap kCar kCop kGro kShr bN bF rCmd rLet rNum fCap fGap fCar fCop fGro fShr hX hC hR) ((ho, .inl (cL, 1, .inr (.inl oF))) :: wX7 cI cS hh vCar vGoa vEag tN tF cN cF mP mS kCap kGap kCar kCop kGro kShr bN bF rCmd rLet rNum fCap fGap fCar fCop fGro fShr hX hC hR) 1 := by
  refine ent_w (by decide +kernel) (Nat.le_of_ble_eq_true rfl) ?_
  intro p e s m args below meth c A ls hx hb hr hml hlocks hg hown hK hP hD hS hA hl htab hZ
  have hown : s.vm.findClass RL = some m.cls := hown
  have hl : lv_has ls 4 [(0, .ref (hh 0)), (1, .int p1), (2, .ref ho)] := hl
  have hP : va_P D vwCl ((ho, .inl (cL, 1, .inr (.inl oF))) :: wX7 cI cS hh vCar vGoa vEag tN tF cN cF mP mS kCap kGap kCar kCop kGro kShr bN bF rCmd rLet rNum fCap fGap fCar fCop fGro fShr hX hC hR) s.heap := hP
  have hD : va_D A ((ho, .inl (cL, 1, .inr (.inl oF))) :: wX7 cI cS hh vCar vGoa vEag tN tF cN cF mP mS kCap kGap kCar kCop kGro kShr bN bF rCmd rLet rNum fCap fGap fCar fCop fGro fShr hX hC hR) := hD
  refine lv_aload_n hx hb dL_append_0 rfl (lv_at hl 2 rfl) ?_
  refine lv_iconst (v := 0) hx hb dL_append_1 (by decide) ?_
  refine lv_aload_n hx hb dL_append_2 rfl (lv_at hl 0 rfl) ?_
  refine lv_iload_n hx hb dL_append_3 rfl (lv_at hl 1 rfl) ?_
  refine cX_i (As := [.int p1]) (rest := [.int 0, .ref ho]) (wc := wX7 cI cS hh vCar vGoa vEag tN tF cN cF mP mS kCap kGap kCar kCop kGro kShr bN bF rCmd rLet rNum fCap fGap fCar fCop fGro fShr hX hC hR) (wc' := wX7 cI cS hh vCar vGoa vEag tN tF cN cF mP mS kCap kGap kCar kCop kGro kShr bN bF rCmd rLet rNum fCap fGap fCar fCop fGro fShr hX hC hR) (ws' := ((ho, .inl (cL, 1, .inr (.inl oF))) :: wX7 cI cS hh vCar vGoa vEag tN tF cN cF mP mS kCap kGap kCar kCop kGro kShr bN bF rCmd rLet rNum fCap fGap fCar fCop fGro fShr hX hC hR)) hx hb hml hown hg hK hP hD hS hA hl.1 hZ (t_X7_append l hlt D cI cS cL Z hh p1 vCar vGoa vEag tN tF cN cF mP mS kCap kGap kCar kCop kGro kShr bN bF rCmd rLet rNum fCap fGap fCar fCop fGro fShr hX hC hR h) gm_X7_append gw_870 ⟨rfl, rfl, by decide, by decide⟩ ⟨by decide, by decide⟩ pm_o pm_o fst_X7 rfl rfl rfl rfl rfl (Nat.le_of_ble_eq_true rfl) dL_append_4 [] (⟨0, 9, 12, 13⟩ : ExceptionTableEntry) [(⟨0, 9, 15, 15⟩ : ExceptionTableEntry)] htab (fun z hz => nomatch hz) (by decide) (by decide) (hg _ gw_492) (kk_nest hK nw_506) (fun q9 H locs hP hD hS => ?_)
  refine lv_astore_n (lv' := [(3, .ref q9), (0, .ref (hh 0)), (1, .int p1), (2, .ref ho)]) hx hb dL_append_12 rfl hl (by decide) rfl (fun ls hl => ?_)
  refine lv_iconst (v := 1) hx hb dL_append_13 (by decide) ?_
  exact ret_w hx hb hr hlocks hP hD hS (by decide) (by decide) dL_append_14 rfl
set_option maxRecDepth 100000 in
set_option maxHeartbeats 4000000 in
theorem t2_L_append (l : Launch) (hlt : l.stackTraces = false) (D : va_G) (cI cS cL : ClassId) (Z : Nat) (hh : Nat → Nat) (ho : Nat) (p1 : Int32) (vCar : Int32) (vGoa : Int32) (vEag : Int32) (tN : Int32) (tF : Nat → Int32) (cN : Int32) (cF : Nat → Int32) (mP : Nat → Int32) (mS : Nat → Int32) (kCap : Int32) (kGap : Int32) (kCar : Int32) (kCop : Int32) (kGro : Int32) (kShr : Int32) (bN : Int32) (bF : Nat → Int32) (rCmd : Int32) (rLet : Int32) (rNum : Int32) (fCap : Int32) (fGap : Int32) (fCar : Int32) (fCop : Int32) (fGro : Int32) (fShr : Int32) (hX : Int32) (hC : Int32) (hR : Nat → StT) (oF : Nat → Int64)  (h : f_X7_append Z p1 bN bF = some (.inr "java/lang/IllegalStateException")) : CWI l yL_append cL_append 4 rw_L_append [(0, 9, 12, 13), (0, 9, 15, 15)] D cI cS cL [.ref (hh 0), .int p1, .ref ho] ((ho, .inl (cL, 1, .inr (.inl oF))) :: wX7 cI cS hh vCar vGoa vEag tN tF cN cF mP mS kCap kGap kCar kCop kGro kShr bN bF rCmd rLet rNum fCap fGap fCar fCop fGro fShr hX hC hR) ((ho, .inl (cL, 1, .inr (.inl oF))) :: wX7 cI cS hh vCar vGoa vEag tN tF cN cF mP mS kCap kGap kCar kCop kGro kShr bN bF rCmd rLet rNum fCap fGap fCar fCop fGro fShr hX hC hR) 2 := by
  refine ent_w (by decide +kernel) (Nat.le_of_ble_eq_true rfl) ?_
  intro p e s m args below meth c A ls hx hb hr hml hlocks hg hown hK hP hD hS hA hl htab hZ
  have hown : s.vm.findClass RL = some m.cls := hown
  have hl : lv_has ls 4 [(0, .ref (hh 0)), (1, .int p1), (2, .ref ho)] := hl
  have hP : va_P D vwCl ((ho, .inl (cL, 1, .inr (.inl oF))) :: wX7 cI cS hh vCar vGoa vEag tN tF cN cF mP mS kCap kGap kCar kCop kGro kShr bN bF rCmd rLet rNum fCap fGap fCar fCop fGro fShr hX hC hR) s.heap := hP
  have hD : va_D A ((ho, .inl (cL, 1, .inr (.inl oF))) :: wX7 cI cS hh vCar vGoa vEag tN tF cN cF mP mS kCap kGap kCar kCop kGro kShr bN bF rCmd rLet rNum fCap fGap fCar fCop fGro fShr hX hC hR) := hD
  refine lv_aload_n hx hb dL_append_0 rfl (lv_at hl 2 rfl) ?_
  refine lv_iconst (v := 0) hx hb dL_append_1 (by decide) ?_
  refine lv_aload_n hx hb dL_append_2 rfl (lv_at hl 0 rfl) ?_
  refine lv_iload_n hx hb dL_append_3 rfl (lv_at hl 1 rfl) ?_
  refine cX_i (As := [.int p1]) (rest := [.int 0, .ref ho]) (wc := wX7 cI cS hh vCar vGoa vEag tN tF cN cF mP mS kCap kGap kCar kCop kGro kShr bN bF rCmd rLet rNum fCap fGap fCar fCop fGro fShr hX hC hR) (wc' := wX7 cI cS hh vCar vGoa vEag tN tF cN cF mP mS kCap kGap kCar kCop kGro kShr bN bF rCmd rLet rNum fCap fGap fCar fCop fGro fShr hX hC hR) (ws' := ((ho, .inl (cL, 1, .inr (.inl oF))) :: wX7 cI cS hh vCar vGoa vEag tN tF cN cF mP mS kCap kGap kCar kCop kGro kShr bN bF rCmd rLet rNum fCap fGap fCar fCop fGro fShr hX hC hR)) hx hb hml hown hg hK hP hD hS hA hl.1 hZ (t_X7_append l hlt D cI cS cL Z hh p1 vCar vGoa vEag tN tF cN cF mP mS kCap kGap kCar kCop kGro kShr bN bF rCmd rLet rNum fCap fGap fCar fCop fGro fShr hX hC hR h) gm_X7_append gw_870 ⟨rfl, rfl, by decide, by decide⟩ ⟨by decide, by decide⟩ pm_o pm_o fst_X7 rfl rfl rfl rfl rfl (Nat.le_of_ble_eq_true rfl) dL_append_4 [(⟨0, 9, 12, 13⟩ : ExceptionTableEntry)] (⟨0, 9, 15, 15⟩ : ExceptionTableEntry) [] htab (fun z hz => by cases List.mem_singleton.mp hz; exact Or.inr ⟨by decide, _, hg _ gw_492, hK.2.2.1⟩) (by decide) (by decide) (hg _ gw_493) (kk_nest hK nw_576) (fun q9 H locs hP hD hS => ?_)
  refine lv_astore_n (lv' := [(3, .ref q9), (0, .ref (hh 0)), (1, .int p1), (2, .ref ho)]) hx hb dL_append_15 rfl hl (by decide) rfl (fun ls hl => ?_)
  refine lv_iconst (v := 2) hx hb dL_append_16 (by decide) ?_
  exact ret_w hx hb hr hlocks hP hD hS (by decide) (by decide) dL_append_17 rfl
abbrev rw_L_backspace : Room := { frames := 8, cells := 1, slots := 6, locals := 132 }
set_option maxRecDepth 100000 in
set_option maxHeartbeats 4000000 in
theorem k_L_backspace (l : Launch) (D : va_G) (cI cS cL : ClassId) (Z : Nat) (hh : Nat → Nat) (ho : Nat) (p1 : Int32) (vCar : Int32) (vGoa : Int32) (vEag : Int32) (tN : Int32) (tF : Nat → Int32) (cN : Int32) (cF : Nat → Int32) (mP : Nat → Int32) (mS : Nat → Int32) (kCap : Int32) (kGap : Int32) (kCar : Int32) (kCop : Int32) (kGro : Int32) (kShr : Int32) (bN : Int32) (bF : Nat → Int32) (rCmd : Int32) (rLet : Int32) (rNum : Int32) (fCap : Int32) (fGap : Int32) (fCar : Int32) (fCop : Int32) (fGro : Int32) (fShr : Int32) (hX : Int32) (hC : Int32) (hR : Nat → StT) (oF : Nat → Int64) {r : Int32} {vCar' : Int32} {vGoa' : Int32} {tN' : Int32} {tF' : Nat → Int32} {mP' : Nat → Int32} {kCap' : Int32} {kGap' : Int32} {kCar' : Int32} {kCop' : Int32} {kShr' : Int32} {hX' : Int32} {hC' : Int32} {hR' : Nat → StT} (h : f_X7_backspace Z p1 vCar vGoa vEag tN tF cN cF mP mS kCap kGap kCar kCop kGro kShr hX hC hR = some (.inl (r, vCar', vGoa', tN', tF', mP', kCap', kGap', kCar', kCop', kShr', hX', hC', hR'))) : CWI l yL_backspace cL_backspace 4 rw_L_backspace [(0, 9, 12, 13)] D cI cS cL [.ref (hh 0), .int p1, .ref ho] ((ho, .inl (cL, 1, .inr (.inl oF))) :: wX7 cI cS hh vCar vGoa vEag tN tF cN cF mP mS kCap kGap kCar kCop kGro kShr bN bF rCmd rLet rNum fCap fGap fCar fCop fGro fShr hX hC hR) ((ho, .inl (cL, 1, .inr (.inl (vp_updL oF 0 (r : Int32).toInt64)))) :: wX7 cI cS hh vCar' vGoa' vEag tN' tF' cN cF mP' mS kCap' kGap' kCar' kCop' kGro kShr' bN bF rCmd rLet rNum fCap fGap fCar fCop fGro fShr hX' hC' hR') 0 := by
  refine ent_w (by decide +kernel) (Nat.le_of_ble_eq_true rfl) ?_
  intro p e s m args below meth c A ls hx hb hr hml hlocks hg hown hK hP hD hS hA hl htab hZ
  have hown : s.vm.findClass RL = some m.cls := hown
  have hl : lv_has ls 4 [(0, .ref (hh 0)), (1, .int p1), (2, .ref ho)] := hl
  have hP : va_P D vwCl ((ho, .inl (cL, 1, .inr (.inl oF))) :: wX7 cI cS hh vCar vGoa vEag tN tF cN cF mP mS kCap kGap kCar kCop kGro kShr bN bF rCmd rLet rNum fCap fGap fCar fCop fGro fShr hX hC hR) s.heap := hP
  have hD : va_D A ((ho, .inl (cL, 1, .inr (.inl oF))) :: wX7 cI cS hh vCar vGoa vEag tN tF cN cF mP mS kCap kGap kCar kCop kGro kShr bN bF rCmd rLet rNum fCap fGap fCar fCop fGro fShr hX hC hR) := hD
  refine lv_aload_n hx hb dL_backspace_0 rfl (lv_at hl 2 rfl) ?_
  refine lv_iconst (v := 0) hx hb dL_backspace_1 (by decide) ?_
  refine lv_aload_n hx hb dL_backspace_2 rfl (lv_at hl 0 rfl) ?_
  refine lv_iload_n hx hb dL_backspace_3 rfl (lv_at hl 1 rfl) ?_
  refine cP_i (As := [.int p1]) (rest := [.int 0, .ref ho]) (wc := wX7 cI cS hh vCar vGoa vEag tN tF cN cF mP mS kCap kGap kCar kCop kGro kShr bN bF rCmd rLet rNum fCap fGap fCar fCop fGro fShr hX hC hR) (wc' := wX7 cI cS hh vCar' vGoa' vEag tN' tF' cN cF mP' mS kCap' kGap' kCar' kCop' kGro kShr' bN bF rCmd rLet rNum fCap fGap fCar fCop fGro fShr hX' hC' hR') (ws' := ((ho, .inl (cL, 1, .inr (.inl oF))) :: wX7 cI cS hh vCar' vGoa' vEag tN' tF' cN cF mP' mS kCap' kGap' kCar' kCop' kGro kShr' bN bF rCmd rLet rNum fCap fGap fCar fCop fGro fShr hX' hC' hR')) hx hb hml hown hg hK hP hD hS hA hl.1 (k_X7_backspace l D cI cS cL Z hh p1 vCar vGoa vEag tN tF cN cF mP mS kCap kGap kCar kCop kGro kShr bN bF rCmd rLet rNum fCap fGap fCar fCop fGro fShr hX hC hR h) gm_X7_backspace gw_659 ⟨rfl, rfl, by decide, by decide⟩ ⟨Nat.zero_le _, Nat.zero_le _⟩ pm_o pm_o fst_X7 rfl rfl rfl rfl rfl (Nat.le_of_ble_eq_true rfl) dL_backspace_4 (fun H locs hP hD hS => ?_)
  refine lv_i2l (v := (r : Int32).toInt64) hx hb dL_backspace_7 rfl ?_
  refine va_last hx hb hK.1 hP hD hS 0 2 rfl rfl (i := 0) (vp_in_nI (n := 0) (by decide) (by decide)) dL_backspace_8 (fun H locs hP hD hS => ?_)
  have hP : va_P D vwCl ((ho, .inl (cL, 1, .inr (.inl (vp_updL oF 0 (r : Int32).toInt64)))) :: wX7 cI cS hh vCar' vGoa' vEag tN' tF' cN cF mP' mS kCap' kGap' kCar' kCop' kGro kShr' bN bF rCmd rLet rNum fCap fGap fCar fCop fGro fShr hX' hC' hR') H := hP
  have hD : va_D A ((ho, .inl (cL, 1, .inr (.inl (vp_updL oF 0 (r : Int32).toInt64)))) :: wX7 cI cS hh vCar' vGoa' vEag tN' tF' cN cF mP' mS kCap' kGap' kCar' kCop' kGro kShr' bN bF rCmd rLet rNum fCap fGap fCar fCop fGro fShr hX' hC' hR') := hD
  refine lv_goto (tgt := 15) hx hb dL_backspace_9 (by decide) ?_
  refine lv_iconst (v := 0) hx hb dL_backspace_15 (by decide) ?_
  exact ret_w hx hb hr hlocks hP hD hS (by decide) (by decide) dL_backspace_16 rfl
set_option maxRecDepth 100000 in
set_option maxHeartbeats 4000000 in
theorem t1_L_backspace (l : Launch) (hlt : l.stackTraces = false) (D : va_G) (cI cS cL : ClassId) (Z : Nat) (hh : Nat → Nat) (ho : Nat) (p1 : Int32) (vCar : Int32) (vGoa : Int32) (vEag : Int32) (tN : Int32) (tF : Nat → Int32) (cN : Int32) (cF : Nat → Int32) (mP : Nat → Int32) (mS : Nat → Int32) (kCap : Int32) (kGap : Int32) (kCar : Int32) (kCop : Int32) (kGro : Int32) (kShr : Int32) (bN : Int32) (bF : Nat → Int32) (rCmd : Int32) (rLet : Int32) (rNum : Int32) (fCap : Int32) (fGap : Int32) (fCar : Int32) (fCop : Int32) (fGro : Int32) (fShr : Int32) (hX : Int32) (hC : Int32) (hR : Nat → StT) (oF : Nat → Int64)  (h : f_X7_backspace Z p1 vCar vGoa vEag tN tF cN cF mP mS kCap kGap kCar kCop kGro kShr hX hC hR = some (.inr "java/lang/IllegalArgumentException")) : CWI l yL_backspace cL_backspace 4 rw_L_backspace [(0, 9, 12, 13)] D cI cS cL [.ref (hh 0), .int p1, .ref ho] ((ho, .inl (cL, 1, .inr (.inl oF))) :: wX7 cI cS hh vCar vGoa vEag tN tF cN cF mP mS kCap kGap kCar kCop kGro kShr bN bF rCmd rLet rNum fCap fGap fCar fCop fGro fShr hX hC hR) ((ho, .inl (cL, 1, .inr (.inl oF))) :: wX7 cI cS hh vCar vGoa vEag tN tF cN cF mP mS kCap kGap kCar kCop kGro kShr bN bF rCmd rLet rNum fCap fGap fCar fCop fGro fShr hX hC hR) 1 := by
  refine ent_w (by decide +kernel) (Nat.le_of_ble_eq_true rfl) ?_
  intro p e s m args below meth c A ls hx hb hr hml hlocks hg hown hK hP hD hS hA hl htab hZ
  have hown : s.vm.findClass RL = some m.cls := hown
  have hl : lv_has ls 4 [(0, .ref (hh 0)), (1, .int p1), (2, .ref ho)] := hl
  have hP : va_P D vwCl ((ho, .inl (cL, 1, .inr (.inl oF))) :: wX7 cI cS hh vCar vGoa vEag tN tF cN cF mP mS kCap kGap kCar kCop kGro kShr bN bF rCmd rLet rNum fCap fGap fCar fCop fGro fShr hX hC hR) s.heap := hP
  have hD : va_D A ((ho, .inl (cL, 1, .inr (.inl oF))) :: wX7 cI cS hh vCar vGoa vEag tN tF cN cF mP mS kCap kGap kCar kCop kGro kShr bN bF rCmd rLet rNum fCap fGap fCar fCop fGro fShr hX hC hR) := hD
  refine lv_aload_n hx hb dL_backspace_0 rfl (lv_at hl 2 rfl) ?_
  refine lv_iconst (v := 0) hx hb dL_backspace_1 (by decide) ?_
  refine lv_aload_n hx hb dL_backspace_2 rfl (lv_at hl 0 rfl) ?_
  refine lv_iload_n hx hb dL_backspace_3 rfl (lv_at hl 1 rfl) ?_
  refine cX_i (As := [.int p1]) (rest := [.int 0, .ref ho]) (wc := wX7 cI cS hh vCar vGoa vEag tN tF cN cF mP mS kCap kGap kCar kCop kGro kShr bN bF rCmd rLet rNum fCap fGap fCar fCop fGro fShr hX hC hR) (wc' := wX7 cI cS hh vCar vGoa vEag tN tF cN cF mP mS kCap kGap kCar kCop kGro kShr bN bF rCmd rLet rNum fCap fGap fCar fCop fGro fShr hX hC hR) (ws' := ((ho, .inl (cL, 1, .inr (.inl oF))) :: wX7 cI cS hh vCar vGoa vEag tN tF cN cF mP mS kCap kGap kCar kCop kGro kShr bN bF rCmd rLet rNum fCap fGap fCar fCop fGro fShr hX hC hR)) hx hb hml hown hg hK hP hD hS hA hl.1 hZ (t_X7_backspace l hlt D cI cS cL Z hh p1 vCar vGoa vEag tN tF cN cF mP mS kCap kGap kCar kCop kGro kShr bN bF rCmd rLet rNum fCap fGap fCar fCop fGro fShr hX hC hR h) gm_X7_backspace gw_659 ⟨rfl, rfl, by decide, by decide⟩ ⟨by decide, by decide⟩ pm_o pm_o fst_X7 rfl rfl rfl rfl rfl (Nat.le_of_ble_eq_true rfl) dL_backspace_4 [] (⟨0, 9, 12, 13⟩ : ExceptionTableEntry) [] htab (fun z hz => nomatch hz) (by decide) (by decide) (hg _ gw_492) (kk_nest hK nw_506) (fun q9 H locs hP hD hS => ?_)
  refine lv_astore_n (lv' := [(3, .ref q9), (0, .ref (hh 0)), (1, .int p1), (2, .ref ho)]) hx hb dL_backspace_12 rfl hl (by decide) rfl (fun ls hl => ?_)
  refine lv_iconst (v := 1) hx hb dL_backspace_13 (by decide) ?_
  exact ret_w hx hb hr hlocks hP hD hS (by decide) (by decide) dL_backspace_14 rfl
abbrev rw_L_byteAt : Room := { frames := 8, cells := 1, slots := 6, locals := 122 }
set_option maxRecDepth 100000 in
set_option maxHeartbeats 4000000 in
theorem k_L_byteAt (l : Launch) (D : va_G) (cI cS cL : ClassId) (Z : Nat) (hh : Nat → Nat) (ho : Nat) (p1 : Int32) (vCar : Int32) (vGoa : Int32) (vEag : Int32) (tN : Int32) (tF : Nat → Int32) (cN : Int32) (cF : Nat → Int32) (mP : Nat → Int32) (mS : Nat → Int32) (kCap : Int32) (kGap : Int32) (kCar : Int32) (kCop : Int32) (kGro : Int32) (kShr : Int32) (bN : Int32) (bF : Nat → Int32) (rCmd : Int32) (rLet : Int32) (rNum : Int32) (fCap : Int32) (fGap : Int32) (fCar : Int32) (fCop : Int32) (fGro : Int32) (fShr : Int32) (hX : Int32) (hC : Int32) (hR : Nat → StT) (oF : Nat → Int64) {r : Int32}  (h : f_X7_byteAt Z p1 tN tF = some (.inl r)) : CWI l yL_byteAt cL_byteAt 4 rw_L_byteAt [(0, 9, 12, 30)] D cI cS cL [.ref (hh 0), .int p1, .ref ho] ((ho, .inl (cL, 1, .inr (.inl oF))) :: wX7 cI cS hh vCar vGoa vEag tN tF cN cF mP mS kCap kGap kCar kCop kGro kShr bN bF rCmd rLet rNum fCap fGap fCar fCop fGro fShr hX hC hR) ((ho, .inl (cL, 1, .inr (.inl (vp_updL oF 0 (r : Int32).toInt64)))) :: wX7 cI cS hh vCar vGoa vEag tN tF cN cF mP mS kCap kGap kCar kCop kGro kShr bN bF rCmd rLet rNum fCap fGap fCar fCop fGro fShr hX hC hR) 0 := by
  refine ent_w (by decide +kernel) (Nat.le_of_ble_eq_true rfl) ?_
  intro p e s m args below meth c A ls hx hb hr hml hlocks hg hown hK hP hD hS hA hl htab hZ
  have hown : s.vm.findClass RL = some m.cls := hown
  have hl : lv_has ls 4 [(0, .ref (hh 0)), (1, .int p1), (2, .ref ho)] := hl
  have hP : va_P D vwCl ((ho, .inl (cL, 1, .inr (.inl oF))) :: wX7 cI cS hh vCar vGoa vEag tN tF cN cF mP mS kCap kGap kCar kCop kGro kShr bN bF rCmd rLet rNum fCap fGap fCar fCop fGro fShr hX hC hR) s.heap := hP
  have hD : va_D A ((ho, .inl (cL, 1, .inr (.inl oF))) :: wX7 cI cS hh vCar vGoa vEag tN tF cN cF mP mS kCap kGap kCar kCop kGro kShr bN bF rCmd rLet rNum fCap fGap fCar fCop fGro fShr hX hC hR) := hD
  refine lv_aload_n hx hb dL_byteAt_0 rfl (lv_at hl 2 rfl) ?_
  refine lv_iconst (v := 0) hx hb dL_byteAt_1 (by decide) ?_
  refine lv_aload_n hx hb dL_byteAt_2 rfl (lv_at hl 0 rfl) ?_
  refine lv_iload_n hx hb dL_byteAt_3 rfl (lv_at hl 1 rfl) ?_
  refine cP_i (As := [.int p1]) (rest := [.int 0, .ref ho]) (wc := wX7 cI cS hh vCar vGoa vEag tN tF cN cF mP mS kCap kGap kCar kCop kGro kShr bN bF rCmd rLet rNum fCap fGap fCar fCop fGro fShr hX hC hR) (wc' := wX7 cI cS hh vCar vGoa vEag tN tF cN cF mP mS kCap kGap kCar kCop kGro kShr bN bF rCmd rLet rNum fCap fGap fCar fCop fGro fShr hX hC hR) (ws' := ((ho, .inl (cL, 1, .inr (.inl oF))) :: wX7 cI cS hh vCar vGoa vEag tN tF cN cF mP mS kCap kGap kCar kCop kGro kShr bN bF rCmd rLet rNum fCap fGap fCar fCop fGro fShr hX hC hR)) hx hb hml hown hg hK hP hD hS hA hl.1 (k_X7_byteAt l D cI cS cL Z hh p1 vCar vGoa vEag tN tF cN cF mP mS kCap kGap kCar kCop kGro kShr bN bF rCmd rLet rNum fCap fGap fCar fCop fGro fShr hX hC hR h) gm_X7_byteAt gw_794 ⟨rfl, rfl, by decide, by decide⟩ ⟨Nat.zero_le _, Nat.zero_le _⟩ pm_o pm_o fst_X7 rfl rfl rfl rfl rfl (Nat.le_of_ble_eq_true rfl) dL_byteAt_4 (fun H locs hP hD hS => ?_)
  refine lv_i2l (v := (r : Int32).toInt64) hx hb dL_byteAt_7 rfl ?_
  refine va_last hx hb hK.1 hP hD hS 0 2 rfl rfl (i := 0) (vp_in_nI (n := 0) (by decide) (by decide)) dL_byteAt_8 (fun H locs hP hD hS => ?_)
  have hP : va_P D vwCl ((ho, .inl (cL, 1, .inr (.inl (vp_updL oF 0 (r : Int32).toInt64)))) :: wX7 cI cS hh vCar vGoa vEag tN tF cN cF mP mS kCap kGap kCar kCop kGro kShr bN bF rCmd rLet rNum fCap fGap fCar fCop fGro fShr hX hC hR) H := hP
  have hD : va_D A ((ho, .inl (cL, 1, .inr (.inl (vp_updL oF 0 (r : Int32).toInt64)))) :: wX7 cI cS hh vCar vGoa vEag tN tF cN cF mP mS kCap kGap kCar kCop kGro kShr bN bF rCmd rLet rNum fCap fGap fCar fCop fGro fShr hX hC hR) := hD
  refine lv_goto (tgt := 15) hx hb dL_byteAt_9 (by decide) ?_
  refine lv_iconst (v := 0) hx hb dL_byteAt_15 (by decide) ?_
  exact ret_w hx hb hr hlocks hP hD hS (by decide) (by decide) dL_byteAt_16 rfl
set_option maxRecDepth 100000 in
set_option maxHeartbeats 4000000 in
theorem t1_L_byteAt (l : Launch) (hlt : l.stackTraces = false) (D : va_G) (cI cS cL : ClassId) (Z : Nat) (hh : Nat → Nat) (ho : Nat) (p1 : Int32) (vCar : Int32) (vGoa : Int32) (vEag : Int32) (tN : Int32) (tF : Nat → Int32) (cN : Int32) (cF : Nat → Int32) (mP : Nat → Int32) (mS : Nat → Int32) (kCap : Int32) (kGap : Int32) (kCar : Int32) (kCop : Int32) (kGro : Int32) (kShr : Int32) (bN : Int32) (bF : Nat → Int32) (rCmd : Int32) (rLet : Int32) (rNum : Int32) (fCap : Int32) (fGap : Int32) (fCar : Int32) (fCop : Int32) (fGro : Int32) (fShr : Int32) (hX : Int32) (hC : Int32) (hR : Nat → StT) (oF : Nat → Int64)  (h : f_X7_byteAt Z p1 tN tF = some (.inr "java/lang/IndexOutOfBoundsException")) : CWI l yL_byteAt cL_byteAt 4 rw_L_byteAt [(0, 9, 12, 30)] D cI cS cL [.ref (hh 0), .int p1, .ref ho] ((ho, .inl (cL, 1, .inr (.inl oF))) :: wX7 cI cS hh vCar vGoa vEag tN tF cN cF mP mS kCap kGap kCar kCop kGro kShr bN bF rCmd rLet rNum fCap fGap fCar fCop fGro fShr hX hC hR) ((ho, .inl (cL, 1, .inr (.inl oF))) :: wX7 cI cS hh vCar vGoa vEag tN tF cN cF mP mS kCap kGap kCar kCop kGro kShr bN bF rCmd rLet rNum fCap fGap fCar fCop fGro fShr hX hC hR) 1 := by
  refine ent_w (by decide +kernel) (Nat.le_of_ble_eq_true rfl) ?_
  intro p e s m args below meth c A ls hx hb hr hml hlocks hg hown hK hP hD hS hA hl htab hZ
  have hown : s.vm.findClass RL = some m.cls := hown
  have hl : lv_has ls 4 [(0, .ref (hh 0)), (1, .int p1), (2, .ref ho)] := hl
  have hP : va_P D vwCl ((ho, .inl (cL, 1, .inr (.inl oF))) :: wX7 cI cS hh vCar vGoa vEag tN tF cN cF mP mS kCap kGap kCar kCop kGro kShr bN bF rCmd rLet rNum fCap fGap fCar fCop fGro fShr hX hC hR) s.heap := hP
  have hD : va_D A ((ho, .inl (cL, 1, .inr (.inl oF))) :: wX7 cI cS hh vCar vGoa vEag tN tF cN cF mP mS kCap kGap kCar kCop kGro kShr bN bF rCmd rLet rNum fCap fGap fCar fCop fGro fShr hX hC hR) := hD
  refine lv_aload_n hx hb dL_byteAt_0 rfl (lv_at hl 2 rfl) ?_
  refine lv_iconst (v := 0) hx hb dL_byteAt_1 (by decide) ?_
  refine lv_aload_n hx hb dL_byteAt_2 rfl (lv_at hl 0 rfl) ?_
  refine lv_iload_n hx hb dL_byteAt_3 rfl (lv_at hl 1 rfl) ?_
  refine cX_i (As := [.int p1]) (rest := [.int 0, .ref ho]) (wc := wX7 cI cS hh vCar vGoa vEag tN tF cN cF mP mS kCap kGap kCar kCop kGro kShr bN bF rCmd rLet rNum fCap fGap fCar fCop fGro fShr hX hC hR) (wc' := wX7 cI cS hh vCar vGoa vEag tN tF cN cF mP mS kCap kGap kCar kCop kGro kShr bN bF rCmd rLet rNum fCap fGap fCar fCop fGro fShr hX hC hR) (ws' := ((ho, .inl (cL, 1, .inr (.inl oF))) :: wX7 cI cS hh vCar vGoa vEag tN tF cN cF mP mS kCap kGap kCar kCop kGro kShr bN bF rCmd rLet rNum fCap fGap fCar fCop fGro fShr hX hC hR)) hx hb hml hown hg hK hP hD hS hA hl.1 hZ (t_X7_byteAt l hlt D cI cS cL Z hh p1 vCar vGoa vEag tN tF cN cF mP mS kCap kGap kCar kCop kGro kShr bN bF rCmd rLet rNum fCap fGap fCar fCop fGro fShr hX hC hR h) gm_X7_byteAt gw_794 ⟨rfl, rfl, by decide, by decide⟩ ⟨by decide, by decide⟩ pm_o pm_o fst_X7 rfl rfl rfl rfl rfl (Nat.le_of_ble_eq_true rfl) dL_byteAt_4 [] (⟨0, 9, 12, 30⟩ : ExceptionTableEntry) [] htab (fun z hz => nomatch hz) (by decide) (by decide) (hg _ gw_670) (kk_nest hK nw_684) (fun q9 H locs hP hD hS => ?_)
  refine lv_astore_n (lv' := [(3, .ref q9), (0, .ref (hh 0)), (1, .int p1), (2, .ref ho)]) hx hb dL_byteAt_12 rfl hl (by decide) rfl (fun ls hl => ?_)
  refine lv_iconst (v := 1) hx hb dL_byteAt_13 (by decide) ?_
  exact ret_w hx hb hr hlocks hP hD hS (by decide) (by decide) dL_byteAt_14 rfl
abbrev rw_L_cell : Room := { frames := 8, cells := 1, slots := 6, locals := 122 }
set_option maxRecDepth 100000 in
set_option maxHeartbeats 4000000 in
theorem k_L_cell (l : Launch) (D : va_G) (cI cS cL : ClassId) (Z : Nat) (hh : Nat → Nat) (ho : Nat) (p1 : Int32) (vCar : Int32) (vGoa : Int32) (vEag : Int32) (tN : Int32) (tF : Nat → Int32) (cN : Int32) (cF : Nat → Int32) (mP : Nat → Int32) (mS : Nat → Int32) (kCap : Int32) (kGap : Int32) (kCar : Int32) (kCop : Int32) (kGro : Int32) (kShr : Int32) (bN : Int32) (bF : Nat → Int32) (rCmd : Int32) (rLet : Int32) (rNum : Int32) (fCap : Int32) (fGap : Int32) (fCar : Int32) (fCop : Int32) (fGro : Int32) (fShr : Int32) (hX : Int32) (hC : Int32) (hR : Nat → StT) (oF : Nat → Int64) {r : Int32}  (h : f_X7_cell Z p1 tN tF kCap kGap = some (.inl r)) : CWI l yL_cell cL_cell 4 rw_L_cell [(0, 9, 12, 30)] D cI cS cL [.ref (hh 0), .int p1, .ref ho] ((ho, .inl (cL, 1, .inr (.inl oF))) :: wX7 cI cS hh vCar vGoa vEag tN tF cN cF mP mS kCap kGap kCar kCop kGro kShr bN bF rCmd rLet rNum fCap fGap fCar fCop fGro fShr hX hC hR) ((ho, .inl (cL, 1, .inr (.inl (vp_updL oF 0 (r : Int32).toInt64)))) :: wX7 cI cS hh vCar vGoa vEag tN tF cN cF mP mS kCap kGap kCar kCop kGro kShr bN bF rCmd rLet rNum fCap fGap fCar fCop fGro fShr hX hC hR) 0 := by
  refine ent_w (by decide +kernel) (Nat.le_of_ble_eq_true rfl) ?_
  intro p e s m args below meth c A ls hx hb hr hml hlocks hg hown hK hP hD hS hA hl htab hZ
  have hown : s.vm.findClass RL = some m.cls := hown
  have hl : lv_has ls 4 [(0, .ref (hh 0)), (1, .int p1), (2, .ref ho)] := hl
  have hP : va_P D vwCl ((ho, .inl (cL, 1, .inr (.inl oF))) :: wX7 cI cS hh vCar vGoa vEag tN tF cN cF mP mS kCap kGap kCar kCop kGro kShr bN bF rCmd rLet rNum fCap fGap fCar fCop fGro fShr hX hC hR) s.heap := hP
  have hD : va_D A ((ho, .inl (cL, 1, .inr (.inl oF))) :: wX7 cI cS hh vCar vGoa vEag tN tF cN cF mP mS kCap kGap kCar kCop kGro kShr bN bF rCmd rLet rNum fCap fGap fCar fCop fGro fShr hX hC hR) := hD
  refine lv_aload_n hx hb dL_cell_0 rfl (lv_at hl 2 rfl) ?_
  refine lv_iconst (v := 0) hx hb dL_cell_1 (by decide) ?_
  refine lv_aload_n hx hb dL_cell_2 rfl (lv_at hl 0 rfl) ?_
  refine lv_iload_n hx hb dL_cell_3 rfl (lv_at hl 1 rfl) ?_
  refine cP_i (As := [.int p1]) (rest := [.int 0, .ref ho]) (wc := wX7 cI cS hh vCar vGoa vEag tN tF cN cF mP mS kCap kGap kCar kCop kGro kShr bN bF rCmd rLet rNum fCap fGap fCar fCop fGro fShr hX hC hR) (wc' := wX7 cI cS hh vCar vGoa vEag tN tF cN cF mP mS kCap kGap kCar kCop kGro kShr bN bF rCmd rLet rNum fCap fGap fCar fCop fGro fShr hX hC hR) (ws' := ((ho, .inl (cL, 1, .inr (.inl oF))) :: wX7 cI cS hh vCar vGoa vEag tN tF cN cF mP mS kCap kGap kCar kCop kGro kShr bN bF rCmd rLet rNum fCap fGap fCar fCop fGro fShr hX hC hR)) hx hb hml hown hg hK hP hD hS hA hl.1 (k_X7_cell l D cI cS cL Z hh p1 vCar vGoa vEag tN tF cN cF mP mS kCap kGap kCar kCop kGro kShr bN bF rCmd rLet rNum fCap fGap fCar fCop fGro fShr hX hC hR h) gm_X7_cell gw_839 ⟨rfl, rfl, by decide, by decide⟩ ⟨Nat.zero_le _, Nat.zero_le _⟩ pm_o pm_o fst_X7 rfl rfl rfl rfl rfl (Nat.le_of_ble_eq_true rfl) dL_cell_4 (fun H locs hP hD hS => ?_)
  refine lv_i2l (v := (r : Int32).toInt64) hx hb dL_cell_7 rfl ?_
  refine va_last hx hb hK.1 hP hD hS 0 2 rfl rfl (i := 0) (vp_in_nI (n := 0) (by decide) (by decide)) dL_cell_8 (fun H locs hP hD hS => ?_)
  have hP : va_P D vwCl ((ho, .inl (cL, 1, .inr (.inl (vp_updL oF 0 (r : Int32).toInt64)))) :: wX7 cI cS hh vCar vGoa vEag tN tF cN cF mP mS kCap kGap kCar kCop kGro kShr bN bF rCmd rLet rNum fCap fGap fCar fCop fGro fShr hX hC hR) H := hP
  have hD : va_D A ((ho, .inl (cL, 1, .inr (.inl (vp_updL oF 0 (r : Int32).toInt64)))) :: wX7 cI cS hh vCar vGoa vEag tN tF cN cF mP mS kCap kGap kCar kCop kGro kShr bN bF rCmd rLet rNum fCap fGap fCar fCop fGro fShr hX hC hR) := hD
  refine lv_goto (tgt := 15) hx hb dL_cell_9 (by decide) ?_
  refine lv_iconst (v := 0) hx hb dL_cell_15 (by decide) ?_
  exact ret_w hx hb hr hlocks hP hD hS (by decide) (by decide) dL_cell_16 rfl
set_option maxRecDepth 100000 in
set_option maxHeartbeats 4000000 in
theorem t1_L_cell (l : Launch) (hlt : l.stackTraces = false) (D : va_G) (cI cS cL : ClassId) (Z : Nat) (hh : Nat → Nat) (ho : Nat) (p1 : Int32) (vCar : Int32) (vGoa : Int32) (vEag : Int32) (tN : Int32) (tF : Nat → Int32) (cN : Int32) (cF : Nat → Int32) (mP : Nat → Int32) (mS : Nat → Int32) (kCap : Int32) (kGap : Int32) (kCar : Int32) (kCop : Int32) (kGro : Int32) (kShr : Int32) (bN : Int32) (bF : Nat → Int32) (rCmd : Int32) (rLet : Int32) (rNum : Int32) (fCap : Int32) (fGap : Int32) (fCar : Int32) (fCop : Int32) (fGro : Int32) (fShr : Int32) (hX : Int32) (hC : Int32) (hR : Nat → StT) (oF : Nat → Int64)  (h : f_X7_cell Z p1 tN tF kCap kGap = some (.inr "java/lang/IndexOutOfBoundsException")) : CWI l yL_cell cL_cell 4 rw_L_cell [(0, 9, 12, 30)] D cI cS cL [.ref (hh 0), .int p1, .ref ho] ((ho, .inl (cL, 1, .inr (.inl oF))) :: wX7 cI cS hh vCar vGoa vEag tN tF cN cF mP mS kCap kGap kCar kCop kGro kShr bN bF rCmd rLet rNum fCap fGap fCar fCop fGro fShr hX hC hR) ((ho, .inl (cL, 1, .inr (.inl oF))) :: wX7 cI cS hh vCar vGoa vEag tN tF cN cF mP mS kCap kGap kCar kCop kGro kShr bN bF rCmd rLet rNum fCap fGap fCar fCop fGro fShr hX hC hR) 1 := by
  refine ent_w (by decide +kernel) (Nat.le_of_ble_eq_true rfl) ?_
  intro p e s m args below meth c A ls hx hb hr hml hlocks hg hown hK hP hD hS hA hl htab hZ
  have hown : s.vm.findClass RL = some m.cls := hown
  have hl : lv_has ls 4 [(0, .ref (hh 0)), (1, .int p1), (2, .ref ho)] := hl
  have hP : va_P D vwCl ((ho, .inl (cL, 1, .inr (.inl oF))) :: wX7 cI cS hh vCar vGoa vEag tN tF cN cF mP mS kCap kGap kCar kCop kGro kShr bN bF rCmd rLet rNum fCap fGap fCar fCop fGro fShr hX hC hR) s.heap := hP
  have hD : va_D A ((ho, .inl (cL, 1, .inr (.inl oF))) :: wX7 cI cS hh vCar vGoa vEag tN tF cN cF mP mS kCap kGap kCar kCop kGro kShr bN bF rCmd rLet rNum fCap fGap fCar fCop fGro fShr hX hC hR) := hD
  refine lv_aload_n hx hb dL_cell_0 rfl (lv_at hl 2 rfl) ?_
  refine lv_iconst (v := 0) hx hb dL_cell_1 (by decide) ?_
  refine lv_aload_n hx hb dL_cell_2 rfl (lv_at hl 0 rfl) ?_
  refine lv_iload_n hx hb dL_cell_3 rfl (lv_at hl 1 rfl) ?_
  refine cX_i (As := [.int p1]) (rest := [.int 0, .ref ho]) (wc := wX7 cI cS hh vCar vGoa vEag tN tF cN cF mP mS kCap kGap kCar kCop kGro kShr bN bF rCmd rLet rNum fCap fGap fCar fCop fGro fShr hX hC hR) (wc' := wX7 cI cS hh vCar vGoa vEag tN tF cN cF mP mS kCap kGap kCar kCop kGro kShr bN bF rCmd rLet rNum fCap fGap fCar fCop fGro fShr hX hC hR) (ws' := ((ho, .inl (cL, 1, .inr (.inl oF))) :: wX7 cI cS hh vCar vGoa vEag tN tF cN cF mP mS kCap kGap kCar kCop kGro kShr bN bF rCmd rLet rNum fCap fGap fCar fCop fGro fShr hX hC hR)) hx hb hml hown hg hK hP hD hS hA hl.1 hZ (t_X7_cell l hlt D cI cS cL Z hh p1 vCar vGoa vEag tN tF cN cF mP mS kCap kGap kCar kCop kGro kShr bN bF rCmd rLet rNum fCap fGap fCar fCop fGro fShr hX hC hR h) gm_X7_cell gw_839 ⟨rfl, rfl, by decide, by decide⟩ ⟨by decide, by decide⟩ pm_o pm_o fst_X7 rfl rfl rfl rfl rfl (Nat.le_of_ble_eq_true rfl) dL_cell_4 [] (⟨0, 9, 12, 30⟩ : ExceptionTableEntry) [] htab (fun z hz => nomatch hz) (by decide) (by decide) (hg _ gw_670) (kk_nest hK nw_684) (fun q9 H locs hP hD hS => ?_)
  refine lv_astore_n (lv' := [(3, .ref q9), (0, .ref (hh 0)), (1, .int p1), (2, .ref ho)]) hx hb dL_cell_12 rfl hl (by decide) rfl (fun ls hl => ?_)
  refine lv_iconst (v := 1) hx hb dL_cell_13 (by decide) ?_
  exact ret_w hx hb hr hlocks hP hD hS (by decide) (by decide) dL_cell_14 rfl
abbrev rw_L_clip : Room := { frames := 8, cells := 1, slots := 6, locals := 122 }
set_option maxRecDepth 100000 in
set_option maxHeartbeats 4000000 in
theorem k_L_clip (l : Launch) (D : va_G) (cI cS cL : ClassId) (Z : Nat) (hh : Nat → Nat) (ho : Nat) (p1 : Int32) (vCar : Int32) (vGoa : Int32) (vEag : Int32) (tN : Int32) (tF : Nat → Int32) (cN : Int32) (cF : Nat → Int32) (mP : Nat → Int32) (mS : Nat → Int32) (kCap : Int32) (kGap : Int32) (kCar : Int32) (kCop : Int32) (kGro : Int32) (kShr : Int32) (bN : Int32) (bF : Nat → Int32) (rCmd : Int32) (rLet : Int32) (rNum : Int32) (fCap : Int32) (fGap : Int32) (fCar : Int32) (fCop : Int32) (fGro : Int32) (fShr : Int32) (hX : Int32) (hC : Int32) (hR : Nat → StT) (oF : Nat → Int64) {r : Int32}  (h : f_X7_clip Z p1 cN cF = some (.inl r)) : CWI l yL_clip cL_clip 4 rw_L_clip [(0, 9, 12, 30)] D cI cS cL [.ref (hh 0), .int p1, .ref ho] ((ho, .inl (cL, 1, .inr (.inl oF))) :: wX7 cI cS hh vCar vGoa vEag tN tF cN cF mP mS kCap kGap kCar kCop kGro kShr bN bF rCmd rLet rNum fCap fGap fCar fCop fGro fShr hX hC hR) ((ho, .inl (cL, 1, .inr (.inl (vp_updL oF 0 (r : Int32).toInt64)))) :: wX7 cI cS hh vCar vGoa vEag tN tF cN cF mP mS kCap kGap kCar kCop kGro kShr bN bF rCmd rLet rNum fCap fGap fCar fCop fGro fShr hX hC hR) 0 := by
  refine ent_w (by decide +kernel) (Nat.le_of_ble_eq_true rfl) ?_
  intro p e s m args below meth c A ls hx hb hr hml hlocks hg hown hK hP hD hS hA hl htab hZ
  have hown : s.vm.findClass RL = some m.cls := hown
  have hl : lv_has ls 4 [(0, .ref (hh 0)), (1, .int p1), (2, .ref ho)] := hl
  have hP : va_P D vwCl ((ho, .inl (cL, 1, .inr (.inl oF))) :: wX7 cI cS hh vCar vGoa vEag tN tF cN cF mP mS kCap kGap kCar kCop kGro kShr bN bF rCmd rLet rNum fCap fGap fCar fCop fGro fShr hX hC hR) s.heap := hP
  have hD : va_D A ((ho, .inl (cL, 1, .inr (.inl oF))) :: wX7 cI cS hh vCar vGoa vEag tN tF cN cF mP mS kCap kGap kCar kCop kGro kShr bN bF rCmd rLet rNum fCap fGap fCar fCop fGro fShr hX hC hR) := hD
  refine lv_aload_n hx hb dL_clip_0 rfl (lv_at hl 2 rfl) ?_
  refine lv_iconst (v := 0) hx hb dL_clip_1 (by decide) ?_
  refine lv_aload_n hx hb dL_clip_2 rfl (lv_at hl 0 rfl) ?_
  refine lv_iload_n hx hb dL_clip_3 rfl (lv_at hl 1 rfl) ?_
  refine cP_i (As := [.int p1]) (rest := [.int 0, .ref ho]) (wc := wX7 cI cS hh vCar vGoa vEag tN tF cN cF mP mS kCap kGap kCar kCop kGro kShr bN bF rCmd rLet rNum fCap fGap fCar fCop fGro fShr hX hC hR) (wc' := wX7 cI cS hh vCar vGoa vEag tN tF cN cF mP mS kCap kGap kCar kCop kGro kShr bN bF rCmd rLet rNum fCap fGap fCar fCop fGro fShr hX hC hR) (ws' := ((ho, .inl (cL, 1, .inr (.inl oF))) :: wX7 cI cS hh vCar vGoa vEag tN tF cN cF mP mS kCap kGap kCar kCop kGro kShr bN bF rCmd rLet rNum fCap fGap fCar fCop fGro fShr hX hC hR)) hx hb hml hown hg hK hP hD hS hA hl.1 (k_X7_clip l D cI cS cL Z hh p1 vCar vGoa vEag tN tF cN cF mP mS kCap kGap kCar kCop kGro kShr bN bF rCmd rLet rNum fCap fGap fCar fCop fGro fShr hX hC hR h) gm_X7_clip gw_771 ⟨rfl, rfl, by decide, by decide⟩ ⟨Nat.zero_le _, Nat.zero_le _⟩ pm_o pm_o fst_X7 rfl rfl rfl rfl rfl (Nat.le_of_ble_eq_true rfl) dL_clip_4 (fun H locs hP hD hS => ?_)
  refine lv_i2l (v := (r : Int32).toInt64) hx hb dL_clip_7 rfl ?_
  refine va_last hx hb hK.1 hP hD hS 0 2 rfl rfl (i := 0) (vp_in_nI (n := 0) (by decide) (by decide)) dL_clip_8 (fun H locs hP hD hS => ?_)
  have hP : va_P D vwCl ((ho, .inl (cL, 1, .inr (.inl (vp_updL oF 0 (r : Int32).toInt64)))) :: wX7 cI cS hh vCar vGoa vEag tN tF cN cF mP mS kCap kGap kCar kCop kGro kShr bN bF rCmd rLet rNum fCap fGap fCar fCop fGro fShr hX hC hR) H := hP
  have hD : va_D A ((ho, .inl (cL, 1, .inr (.inl (vp_updL oF 0 (r : Int32).toInt64)))) :: wX7 cI cS hh vCar vGoa vEag tN tF cN cF mP mS kCap kGap kCar kCop kGro kShr bN bF rCmd rLet rNum fCap fGap fCar fCop fGro fShr hX hC hR) := hD
  refine lv_goto (tgt := 15) hx hb dL_clip_9 (by decide) ?_
  refine lv_iconst (v := 0) hx hb dL_clip_15 (by decide) ?_
  exact ret_w hx hb hr hlocks hP hD hS (by decide) (by decide) dL_clip_16 rfl
set_option maxRecDepth 100000 in
set_option maxHeartbeats 4000000 in
theorem t1_L_clip (l : Launch) (hlt : l.stackTraces = false) (D : va_G) (cI cS cL : ClassId) (Z : Nat) (hh : Nat → Nat) (ho : Nat) (p1 : Int32) (vCar : Int32) (vGoa : Int32) (vEag : Int32) (tN : Int32) (tF : Nat → Int32) (cN : Int32) (cF : Nat → Int32) (mP : Nat → Int32) (mS : Nat → Int32) (kCap : Int32) (kGap : Int32) (kCar : Int32) (kCop : Int32) (kGro : Int32) (kShr : Int32) (bN : Int32) (bF : Nat → Int32) (rCmd : Int32) (rLet : Int32) (rNum : Int32) (fCap : Int32) (fGap : Int32) (fCar : Int32) (fCop : Int32) (fGro : Int32) (fShr : Int32) (hX : Int32) (hC : Int32) (hR : Nat → StT) (oF : Nat → Int64)  (h : f_X7_clip Z p1 cN cF = some (.inr "java/lang/IndexOutOfBoundsException")) : CWI l yL_clip cL_clip 4 rw_L_clip [(0, 9, 12, 30)] D cI cS cL [.ref (hh 0), .int p1, .ref ho] ((ho, .inl (cL, 1, .inr (.inl oF))) :: wX7 cI cS hh vCar vGoa vEag tN tF cN cF mP mS kCap kGap kCar kCop kGro kShr bN bF rCmd rLet rNum fCap fGap fCar fCop fGro fShr hX hC hR) ((ho, .inl (cL, 1, .inr (.inl oF))) :: wX7 cI cS hh vCar vGoa vEag tN tF cN cF mP mS kCap kGap kCar kCop kGro kShr bN bF rCmd rLet rNum fCap fGap fCar fCop fGro fShr hX hC hR) 1 := by
  refine ent_w (by decide +kernel) (Nat.le_of_ble_eq_true rfl) ?_
  intro p e s m args below meth c A ls hx hb hr hml hlocks hg hown hK hP hD hS hA hl htab hZ
  have hown : s.vm.findClass RL = some m.cls := hown
  have hl : lv_has ls 4 [(0, .ref (hh 0)), (1, .int p1), (2, .ref ho)] := hl
  have hP : va_P D vwCl ((ho, .inl (cL, 1, .inr (.inl oF))) :: wX7 cI cS hh vCar vGoa vEag tN tF cN cF mP mS kCap kGap kCar kCop kGro kShr bN bF rCmd rLet rNum fCap fGap fCar fCop fGro fShr hX hC hR) s.heap := hP
  have hD : va_D A ((ho, .inl (cL, 1, .inr (.inl oF))) :: wX7 cI cS hh vCar vGoa vEag tN tF cN cF mP mS kCap kGap kCar kCop kGro kShr bN bF rCmd rLet rNum fCap fGap fCar fCop fGro fShr hX hC hR) := hD
  refine lv_aload_n hx hb dL_clip_0 rfl (lv_at hl 2 rfl) ?_
  refine lv_iconst (v := 0) hx hb dL_clip_1 (by decide) ?_
  refine lv_aload_n hx hb dL_clip_2 rfl (lv_at hl 0 rfl) ?_
  refine lv_iload_n hx hb dL_clip_3 rfl (lv_at hl 1 rfl) ?_
  refine cX_i (As := [.int p1]) (rest := [.int 0, .ref ho]) (wc := wX7 cI cS hh vCar vGoa vEag tN tF cN cF mP mS kCap kGap kCar kCop kGro kShr bN bF rCmd rLet rNum fCap fGap fCar fCop fGro fShr hX hC hR) (wc' := wX7 cI cS hh vCar vGoa vEag tN tF cN cF mP mS kCap kGap kCar kCop kGro kShr bN bF rCmd rLet rNum fCap fGap fCar fCop fGro fShr hX hC hR) (ws' := ((ho, .inl (cL, 1, .inr (.inl oF))) :: wX7 cI cS hh vCar vGoa vEag tN tF cN cF mP mS kCap kGap kCar kCop kGro kShr bN bF rCmd rLet rNum fCap fGap fCar fCop fGro fShr hX hC hR)) hx hb hml hown hg hK hP hD hS hA hl.1 hZ (t_X7_clip l hlt D cI cS cL Z hh p1 vCar vGoa vEag tN tF cN cF mP mS kCap kGap kCar kCop kGro kShr bN bF rCmd rLet rNum fCap fGap fCar fCop fGro fShr hX hC hR h) gm_X7_clip gw_771 ⟨rfl, rfl, by decide, by decide⟩ ⟨by decide, by decide⟩ pm_o pm_o fst_X7 rfl rfl rfl rfl rfl (Nat.le_of_ble_eq_true rfl) dL_clip_4 [] (⟨0, 9, 12, 30⟩ : ExceptionTableEntry) [] htab (fun z hz => nomatch hz) (by decide) (by decide) (hg _ gw_670) (kk_nest hK nw_684) (fun q9 H locs hP hD hS => ?_)
  refine lv_astore_n (lv' := [(3, .ref q9), (0, .ref (hh 0)), (1, .int p1), (2, .ref ho)]) hx hb dL_clip_12 rfl hl (by decide) rfl (fun ls hl => ?_)
  refine lv_iconst (v := 1) hx hb dL_clip_13 (by decide) ?_
  exact ret_w hx hb hr hlocks hP hD hS (by decide) (by decide) dL_clip_14 rfl
abbrev rw_L_columnOf : Room := { frames := 8, cells := 1, slots := 6, locals := 122 }
set_option maxRecDepth 100000 in
set_option maxHeartbeats 4000000 in
theorem k_L_columnOf (l : Launch) (D : va_G) (cI cS cL : ClassId) (Z : Nat) (hh : Nat → Nat) (ho : Nat) (p1 : Int32) (vCar : Int32) (vGoa : Int32) (vEag : Int32) (tN : Int32) (tF : Nat → Int32) (cN : Int32) (cF : Nat → Int32) (mP : Nat → Int32) (mS : Nat → Int32) (kCap : Int32) (kGap : Int32) (kCar : Int32) (kCop : Int32) (kGro : Int32) (kShr : Int32) (bN : Int32) (bF : Nat → Int32) (rCmd : Int32) (rLet : Int32) (rNum : Int32) (fCap : Int32) (fGap : Int32) (fCar : Int32) (fCop : Int32) (fGro : Int32) (fShr : Int32) (hX : Int32) (hC : Int32) (hR : Nat → StT) (oF : Nat → Int64) {r : Int32}  (h : f_X7_columnOf Z p1 tN tF = some (.inl r)) : CWI l yL_columnOf cL_columnOf 4 rw_L_columnOf [(0, 9, 12, 30)] D cI cS cL [.ref (hh 0), .int p1, .ref ho] ((ho, .inl (cL, 1, .inr (.inl oF))) :: wX7 cI cS hh vCar vGoa vEag tN tF cN cF mP mS kCap kGap kCar kCop kGro kShr bN bF rCmd rLet rNum fCap fGap fCar fCop fGro fShr hX hC hR) ((ho, .inl (cL, 1, .inr (.inl (vp_updL oF 0 (r : Int32).toInt64)))) :: wX7 cI cS hh vCar vGoa vEag tN tF cN cF mP mS kCap kGap kCar kCop kGro kShr bN bF rCmd rLet rNum fCap fGap fCar fCop fGro fShr hX hC hR) 0 := by
  refine ent_w (by decide +kernel) (Nat.le_of_ble_eq_true rfl) ?_
  intro p e s m args below meth c A ls hx hb hr hml hlocks hg hown hK hP hD hS hA hl htab hZ
  have hown : s.vm.findClass RL = some m.cls := hown
  have hl : lv_has ls 4 [(0, .ref (hh 0)), (1, .int p1), (2, .ref ho)] := hl
  have hP : va_P D vwCl ((ho, .inl (cL, 1, .inr (.inl oF))) :: wX7 cI cS hh vCar vGoa vEag tN tF cN cF mP mS kCap kGap kCar kCop kGro kShr bN bF rCmd rLet rNum fCap fGap fCar fCop fGro fShr hX hC hR) s.heap := hP
  have hD : va_D A ((ho, .inl (cL, 1, .inr (.inl oF))) :: wX7 cI cS hh vCar vGoa vEag tN tF cN cF mP mS kCap kGap kCar kCop kGro kShr bN bF rCmd rLet rNum fCap fGap fCar fCop fGro fShr hX hC hR) := hD
  refine lv_aload_n hx hb dL_columnOf_0 rfl (lv_at hl 2 rfl) ?_
  refine lv_iconst (v := 0) hx hb dL_columnOf_1 (by decide) ?_
  refine lv_aload_n hx hb dL_columnOf_2 rfl (lv_at hl 0 rfl) ?_
  refine lv_iload_n hx hb dL_columnOf_3 rfl (lv_at hl 1 rfl) ?_
  refine cP_i (As := [.int p1]) (rest := [.int 0, .ref ho]) (wc := wX7 cI cS hh vCar vGoa vEag tN tF cN cF mP mS kCap kGap kCar kCop kGro kShr bN bF rCmd rLet rNum fCap fGap fCar fCop fGro fShr hX hC hR) (wc' := wX7 cI cS hh vCar vGoa vEag tN tF cN cF mP mS kCap kGap kCar kCop kGro kShr bN bF rCmd rLet rNum fCap fGap fCar fCop fGro fShr hX hC hR) (ws' := ((ho, .inl (cL, 1, .inr (.inl oF))) :: wX7 cI cS hh vCar vGoa vEag tN tF cN cF mP mS kCap kGap kCar kCop kGro kShr bN bF rCmd rLet rNum fCap fGap fCar fCop fGro fShr hX hC hR)) hx hb hml hown hg hK hP hD hS hA hl.1 (k_X7_columnOf l D cI cS cL Z hh p1 vCar vGoa vEag tN tF cN cF mP mS kCap kGap kCar kCop kGro kShr bN bF rCmd rLet rNum fCap fGap fCar fCop fGro fShr hX hC hR h) gm_X7_columnOf gw_809 ⟨rfl, rfl, by decide, by decide⟩ ⟨Nat.zero_le _, Nat.zero_le _⟩ pm_o pm_o fst_X7 rfl rfl rfl rfl rfl (Nat.le_of_ble_eq_true rfl) dL_columnOf_4 (fun H locs hP hD hS => ?_)
  refine lv_i2l (v := (r : Int32).toInt64) hx hb dL_columnOf_7 rfl ?_
  refine va_last hx hb hK.1 hP hD hS 0 2 rfl rfl (i := 0) (vp_in_nI (n := 0) (by decide) (by decide)) dL_columnOf_8 (fun H locs hP hD hS => ?_)
  have hP : va_P D vwCl ((ho, .inl (cL, 1, .inr (.inl (vp_updL oF 0 (r : Int32).toInt64)))) :: wX7 cI cS hh vCar vGoa vEag tN tF cN cF mP mS kCap kGap kCar kCop kGro kShr bN bF rCmd rLet rNum fCap fGap fCar fCop fGro fShr hX hC hR) H := hP
  have hD : va_D A ((ho, .inl (cL, 1, .inr (.inl (vp_updL oF 0 (r : Int32).toInt64)))) :: wX7 cI cS hh vCar vGoa vEag tN tF cN cF mP mS kCap kGap kCar kCop kGro kShr bN bF rCmd rLet rNum fCap fGap fCar fCop fGro fShr hX hC hR) := hD
  refine lv_goto (tgt := 15) hx hb dL_columnOf_9 (by decide) ?_
  refine lv_iconst (v := 0) hx hb dL_columnOf_15 (by decide) ?_
  exact ret_w hx hb hr hlocks hP hD hS (by decide) (by decide) dL_columnOf_16 rfl
set_option maxRecDepth 100000 in
set_option maxHeartbeats 4000000 in
theorem t1_L_columnOf (l : Launch) (hlt : l.stackTraces = false) (D : va_G) (cI cS cL : ClassId) (Z : Nat) (hh : Nat → Nat) (ho : Nat) (p1 : Int32) (vCar : Int32) (vGoa : Int32) (vEag : Int32) (tN : Int32) (tF : Nat → Int32) (cN : Int32) (cF : Nat → Int32) (mP : Nat → Int32) (mS : Nat → Int32) (kCap : Int32) (kGap : Int32) (kCar : Int32) (kCop : Int32) (kGro : Int32) (kShr : Int32) (bN : Int32) (bF : Nat → Int32) (rCmd : Int32) (rLet : Int32) (rNum : Int32) (fCap : Int32) (fGap : Int32) (fCar : Int32) (fCop : Int32) (fGro : Int32) (fShr : Int32) (hX : Int32) (hC : Int32) (hR : Nat → StT) (oF : Nat → Int64)  (h : f_X7_columnOf Z p1 tN tF = some (.inr "java/lang/IndexOutOfBoundsException")) : CWI l yL_columnOf cL_columnOf 4 rw_L_columnOf [(0, 9, 12, 30)] D cI cS cL [.ref (hh 0), .int p1, .ref ho] ((ho, .inl (cL, 1, .inr (.inl oF))) :: wX7 cI cS hh vCar vGoa vEag tN tF cN cF mP mS kCap kGap kCar kCop kGro kShr bN bF rCmd rLet rNum fCap fGap fCar fCop fGro fShr hX hC hR) ((ho, .inl (cL, 1, .inr (.inl oF))) :: wX7 cI cS hh vCar vGoa vEag tN tF cN cF mP mS kCap kGap kCar kCop kGro kShr bN bF rCmd rLet rNum fCap fGap fCar fCop fGro fShr hX hC hR) 1 := by
  refine ent_w (by decide +kernel) (Nat.le_of_ble_eq_true rfl) ?_
  intro p e s m args below meth c A ls hx hb hr hml hlocks hg hown hK hP hD hS hA hl htab hZ
  have hown : s.vm.findClass RL = some m.cls := hown
  have hl : lv_has ls 4 [(0, .ref (hh 0)), (1, .int p1), (2, .ref ho)] := hl
  have hP : va_P D vwCl ((ho, .inl (cL, 1, .inr (.inl oF))) :: wX7 cI cS hh vCar vGoa vEag tN tF cN cF mP mS kCap kGap kCar kCop kGro kShr bN bF rCmd rLet rNum fCap fGap fCar fCop fGro fShr hX hC hR) s.heap := hP
  have hD : va_D A ((ho, .inl (cL, 1, .inr (.inl oF))) :: wX7 cI cS hh vCar vGoa vEag tN tF cN cF mP mS kCap kGap kCar kCop kGro kShr bN bF rCmd rLet rNum fCap fGap fCar fCop fGro fShr hX hC hR) := hD
  refine lv_aload_n hx hb dL_columnOf_0 rfl (lv_at hl 2 rfl) ?_
  refine lv_iconst (v := 0) hx hb dL_columnOf_1 (by decide) ?_
  refine lv_aload_n hx hb dL_columnOf_2 rfl (lv_at hl 0 rfl) ?_
  refine lv_iload_n hx hb dL_columnOf_3 rfl (lv_at hl 1 rfl) ?_
  refine cX_i (As := [.int p1]) (rest := [.int 0, .ref ho]) (wc := wX7 cI cS hh vCar vGoa vEag tN tF cN cF mP mS kCap kGap kCar kCop kGro kShr bN bF rCmd rLet rNum fCap fGap fCar fCop fGro fShr hX hC hR) (wc' := wX7 cI cS hh vCar vGoa vEag tN tF cN cF mP mS kCap kGap kCar kCop kGro kShr bN bF rCmd rLet rNum fCap fGap fCar fCop fGro fShr hX hC hR) (ws' := ((ho, .inl (cL, 1, .inr (.inl oF))) :: wX7 cI cS hh vCar vGoa vEag tN tF cN cF mP mS kCap kGap kCar kCop kGro kShr bN bF rCmd rLet rNum fCap fGap fCar fCop fGro fShr hX hC hR)) hx hb hml hown hg hK hP hD hS hA hl.1 hZ (t_X7_columnOf l hlt D cI cS cL Z hh p1 vCar vGoa vEag tN tF cN cF mP mS kCap kGap kCar kCop kGro kShr bN bF rCmd rLet rNum fCap fGap fCar fCop fGro fShr hX hC hR h) gm_X7_columnOf gw_809 ⟨rfl, rfl, by decide, by decide⟩ ⟨by decide, by decide⟩ pm_o pm_o fst_X7 rfl rfl rfl rfl rfl (Nat.le_of_ble_eq_true rfl) dL_columnOf_4 [] (⟨0, 9, 12, 30⟩ : ExceptionTableEntry) [] htab (fun z hz => nomatch hz) (by decide) (by decide) (hg _ gw_670) (kk_nest hK nw_684) (fun q9 H locs hP hD hS => ?_)
  refine lv_astore_n (lv' := [(3, .ref q9), (0, .ref (hh 0)), (1, .int p1), (2, .ref ho)]) hx hb dL_columnOf_12 rfl hl (by decide) rfl (fun ls hl => ?_)
  refine lv_iconst (v := 1) hx hb dL_columnOf_13 (by decide) ?_
  exact ret_w hx hb hr hlocks hP hD hS (by decide) (by decide) dL_columnOf_14 rfl
abbrev rw_L_copy : Room := { frames := 8, cells := 1, slots := 6, locals := 128 }
set_option maxRecDepth 100000 in
set_option maxHeartbeats 4000000 in
theorem k_L_copy (l : Launch) (D : va_G) (cI cS cL : ClassId) (Z : Nat) (hh : Nat → Nat) (ho : Nat) (p1 : Int32) (vCar : Int32) (vGoa : Int32) (vEag : Int32) (tN : Int32) (tF : Nat → Int32) (cN : Int32) (cF : Nat → Int32) (mP : Nat → Int32) (mS : Nat → Int32) (kCap : Int32) (kGap : Int32) (kCar : Int32) (kCop : Int32) (kGro : Int32) (kShr : Int32) (bN : Int32) (bF : Nat → Int32) (rCmd : Int32) (rLet : Int32) (rNum : Int32) (fCap : Int32) (fGap : Int32) (fCar : Int32) (fCop : Int32) (fGro : Int32) (fShr : Int32) (hX : Int32) (hC : Int32) (hR : Nat → StT) (oF : Nat → Int64) {r : Int32} {cN' : Int32} {cF' : Nat → Int32} {hX' : Int32} {hC' : Int32} {hR' : Nat → StT} (h : f_X7_copy Z p1 vCar vGoa vEag tN tF cN cF mP mS kCap kGap kCar kCop kGro kShr hX hC hR = some (.inl (r, cN', cF', hX', hC', hR'))) : CWI l yL_copy cL_copy 4 rw_L_copy [(0, 9, 12, 30), (0, 9, 15, 15)] D cI cS cL [.ref (hh 0), .int p1, .ref ho] ((ho, .inl (cL, 1, .inr (.inl oF))) :: wX7 cI cS hh vCar vGoa vEag tN tF cN cF mP mS kCap kGap kCar kCop kGro kShr bN bF rCmd rLet rNum fCap fGap fCar fCop fGro fShr hX hC hR) ((ho, .inl (cL, 1, .inr (.inl (vp_updL oF 0 (r : Int32).toInt64)))) :: wX7 cI cS hh vCar vGoa vEag tN tF cN' cF' mP mS kCap kGap kCar kCop kGro kShr bN bF rCmd rLet rNum fCap fGap fCar fCop fGro fShr hX' hC' hR') 0 := by
  refine ent_w (by decide +kernel) (Nat.le_of_ble_eq_true rfl) ?_
  intro p e s m args below meth c A ls hx hb hr hml hlocks hg hown hK hP hD hS hA hl htab hZ
  have hown : s.vm.findClass RL = some m.cls := hown
  have hl : lv_has ls 4 [(0, .ref (hh 0)), (1, .int p1), (2, .ref ho)] := hl
  have hP : va_P D vwCl ((ho, .inl (cL, 1, .inr (.inl oF))) :: wX7 cI cS hh vCar vGoa vEag tN tF cN cF mP mS kCap kGap kCar kCop kGro kShr bN bF rCmd rLet rNum fCap fGap fCar fCop fGro fShr hX hC hR) s.heap := hP
  have hD : va_D A ((ho, .inl (cL, 1, .inr (.inl oF))) :: wX7 cI cS hh vCar vGoa vEag tN tF cN cF mP mS kCap kGap kCar kCop kGro kShr bN bF rCmd rLet rNum fCap fGap fCar fCop fGro fShr hX hC hR) := hD
  refine lv_aload_n hx hb dL_copy_0 rfl (lv_at hl 2 rfl) ?_
  refine lv_iconst (v := 0) hx hb dL_copy_1 (by decide) ?_
  refine lv_aload_n hx hb dL_copy_2 rfl (lv_at hl 0 rfl) ?_
  refine lv_iload_n hx hb dL_copy_3 rfl (lv_at hl 1 rfl) ?_
  refine cP_i (As := [.int p1]) (rest := [.int 0, .ref ho]) (wc := wX7 cI cS hh vCar vGoa vEag tN tF cN cF mP mS kCap kGap kCar kCop kGro kShr bN bF rCmd rLet rNum fCap fGap fCar fCop fGro fShr hX hC hR) (wc' := wX7 cI cS hh vCar vGoa vEag tN tF cN' cF' mP mS kCap kGap kCar kCop kGro kShr bN bF rCmd rLet rNum fCap fGap fCar fCop fGro fShr hX' hC' hR') (ws' := ((ho, .inl (cL, 1, .inr (.inl oF))) :: wX7 cI cS hh vCar vGoa vEag tN tF cN' cF' mP mS kCap kGap kCar kCop kGro kShr bN bF rCmd rLet rNum fCap fGap fCar fCop fGro fShr hX' hC' hR')) hx hb hml hown hg hK hP hD hS hA hl.1 (k_X7_copy l D cI cS cL Z hh p1 vCar vGoa vEag tN tF cN cF mP mS kCap kGap kCar kCop kGro kShr bN bF rCmd rLet rNum fCap fGap fCar fCop fGro fShr hX hC hR h) gm_X7_copy gw_719 ⟨rfl, rfl, by decide, by decide⟩ ⟨Nat.zero_le _, Nat.zero_le _⟩ pm_o pm_o fst_X7 rfl rfl rfl rfl rfl (Nat.le_of_ble_eq_true rfl) dL_copy_4 (fun H locs hP hD hS => ?_)
  refine lv_i2l (v := (r : Int32).toInt64) hx hb dL_copy_7 rfl ?_
  refine va_last hx hb hK.1 hP hD hS 0 2 rfl rfl (i := 0) (vp_in_nI (n := 0) (by decide) (by decide)) dL_copy_8 (fun H locs hP hD hS => ?_)
  have hP : va_P D vwCl ((ho, .inl (cL, 1, .inr (.inl (vp_updL oF 0 (r : Int32).toInt64)))) :: wX7 cI cS hh vCar vGoa vEag tN tF cN' cF' mP mS kCap kGap kCar kCop kGro kShr bN bF rCmd rLet rNum fCap fGap fCar fCop fGro fShr hX' hC' hR') H := hP
  have hD : va_D A ((ho, .inl (cL, 1, .inr (.inl (vp_updL oF 0 (r : Int32).toInt64)))) :: wX7 cI cS hh vCar vGoa vEag tN tF cN' cF' mP mS kCap kGap kCar kCop kGro kShr bN bF rCmd rLet rNum fCap fGap fCar fCop fGro fShr hX' hC' hR') := hD
  refine lv_goto (tgt := 18) hx hb dL_copy_9 (by decide) ?_
  refine lv_iconst (v := 0) hx hb dL_copy_18 (by decide) ?_
  exact ret_w hx hb hr hlocks hP hD hS (by decide) (by decide) dL_copy_19 rfl
set_option maxRecDepth 100000 in
set_option maxHeartbeats 4000000 in
theorem t1_L_copy (l : Launch) (hlt : l.stackTraces = false) (D : va_G) (cI cS cL : ClassId) (Z : Nat) (hh : Nat → Nat) (ho : Nat) (p1 : Int32) (vCar : Int32) (vGoa : Int32) (vEag : Int32) (tN : Int32) (tF : Nat → Int32) (cN : Int32) (cF : Nat → Int32) (mP : Nat → Int32) (mS : Nat → Int32) (kCap : Int32) (kGap : Int32) (kCar : Int32) (kCop : Int32) (kGro : Int32) (kShr : Int32) (bN : Int32) (bF : Nat → Int32) (rCmd : Int32) (rLet : Int32) (rNum : Int32) (fCap : Int32) (fGap : Int32) (fCar : Int32) (fCop : Int32) (fGro : Int32) (fShr : Int32) (hX : Int32) (hC : Int32) (hR : Nat → StT) (oF : Nat → Int64)  (h : f_X7_copy Z p1 vCar vGoa vEag tN tF cN cF mP mS kCap kGap kCar kCop kGro kShr hX hC hR = some (.inr "java/lang/IndexOutOfBoundsException")) : CWI l yL_copy cL_copy 4 rw_L_copy [(0, 9, 12, 30), (0, 9, 15, 15)] D cI cS cL [.ref (hh 0), .int p1, .ref ho] ((ho, .inl (cL, 1, .inr (.inl oF))) :: wX7 cI cS hh vCar vGoa vEag tN tF cN cF mP mS kCap kGap kCar kCop kGro kShr bN bF rCmd rLet rNum fCap fGap fCar fCop fGro fShr hX hC hR) ((ho, .inl (cL, 1, .inr (.inl oF))) :: wX7 cI cS hh vCar vGoa vEag tN tF cN cF mP mS kCap kGap kCar kCop kGro kShr bN bF rCmd rLet rNum fCap fGap fCar fCop fGro fShr hX hC hR) 1 := by
  refine ent_w (by decide +kernel) (Nat.le_of_ble_eq_true rfl) ?_
  intro p e s m args below meth c A ls hx hb hr hml hlocks hg hown hK hP hD hS hA hl htab hZ
  have hown : s.vm.findClass RL = some m.cls := hown
  have hl : lv_has ls 4 [(0, .ref (hh 0)), (1, .int p1), (2, .ref ho)] := hl
  have hP : va_P D vwCl ((ho, .inl (cL, 1, .inr (.inl oF))) :: wX7 cI cS hh vCar vGoa vEag tN tF cN cF mP mS kCap kGap kCar kCop kGro kShr bN bF rCmd rLet rNum fCap fGap fCar fCop fGro fShr hX hC hR) s.heap := hP
  have hD : va_D A ((ho, .inl (cL, 1, .inr (.inl oF))) :: wX7 cI cS hh vCar vGoa vEag tN tF cN cF mP mS kCap kGap kCar kCop kGro kShr bN bF rCmd rLet rNum fCap fGap fCar fCop fGro fShr hX hC hR) := hD
  refine lv_aload_n hx hb dL_copy_0 rfl (lv_at hl 2 rfl) ?_
  refine lv_iconst (v := 0) hx hb dL_copy_1 (by decide) ?_
  refine lv_aload_n hx hb dL_copy_2 rfl (lv_at hl 0 rfl) ?_
  refine lv_iload_n hx hb dL_copy_3 rfl (lv_at hl 1 rfl) ?_
  refine cX_i (As := [.int p1]) (rest := [.int 0, .ref ho]) (wc := wX7 cI cS hh vCar vGoa vEag tN tF cN cF mP mS kCap kGap kCar kCop kGro kShr bN bF rCmd rLet rNum fCap fGap fCar fCop fGro fShr hX hC hR) (wc' := wX7 cI cS hh vCar vGoa vEag tN tF cN cF mP mS kCap kGap kCar kCop kGro kShr bN bF rCmd rLet rNum fCap fGap fCar fCop fGro fShr hX hC hR) (ws' := ((ho, .inl (cL, 1, .inr (.inl oF))) :: wX7 cI cS hh vCar vGoa vEag tN tF cN cF mP mS kCap kGap kCar kCop kGro kShr bN bF rCmd rLet rNum fCap fGap fCar fCop fGro fShr hX hC hR)) hx hb hml hown hg hK hP hD hS hA hl.1 hZ (t_X7_copy l hlt D cI cS cL Z hh p1 vCar vGoa vEag tN tF cN cF mP mS kCap kGap kCar kCop kGro kShr bN bF rCmd rLet rNum fCap fGap fCar fCop fGro fShr hX hC hR h) gm_X7_copy gw_719 ⟨rfl, rfl, by decide, by decide⟩ ⟨by decide, by decide⟩ pm_o pm_o fst_X7 rfl rfl rfl rfl rfl (Nat.le_of_ble_eq_true rfl) dL_copy_4 [] (⟨0, 9, 12, 30⟩ : ExceptionTableEntry) [(⟨0, 9, 15, 15⟩ : ExceptionTableEntry)] htab (fun z hz => nomatch hz) (by decide) (by decide) (hg _ gw_670) (kk_nest hK nw_684) (fun q9 H locs hP hD hS => ?_)
  refine lv_astore_n (lv' := [(3, .ref q9), (0, .ref (hh 0)), (1, .int p1), (2, .ref ho)]) hx hb dL_copy_12 rfl hl (by decide) rfl (fun ls hl => ?_)
  refine lv_iconst (v := 1) hx hb dL_copy_13 (by decide) ?_
  exact ret_w hx hb hr hlocks hP hD hS (by decide) (by decide) dL_copy_14 rfl
set_option maxRecDepth 100000 in
set_option maxHeartbeats 4000000 in
theorem t2_L_copy (l : Launch) (hlt : l.stackTraces = false) (D : va_G) (cI cS cL : ClassId) (Z : Nat) (hh : Nat → Nat) (ho : Nat) (p1 : Int32) (vCar : Int32) (vGoa : Int32) (vEag : Int32) (tN : Int32) (tF : Nat → Int32) (cN : Int32) (cF : Nat → Int32) (mP : Nat → Int32) (mS : Nat → Int32) (kCap : Int32) (kGap : Int32) (kCar : Int32) (kCop : Int32) (kGro : Int32) (kShr : Int32) (bN : Int32) (bF : Nat → Int32) (rCmd : Int32) (rLet : Int32) (rNum : Int32) (fCap : Int32) (fGap : Int32) (fCar : Int32) (fCop : Int32) (fGro : Int32) (fShr : Int32) (hX : Int32) (hC : Int32) (hR : Nat → StT) (oF : Nat → Int64)  (h : f_X7_copy Z p1 vCar vGoa vEag tN tF cN cF mP mS kCap kGap kCar kCop kGro kShr hX hC hR = some (.inr "java/lang/IllegalStateException")) : CWI l yL_copy cL_copy 4 rw_L_copy [(0, 9, 12, 30), (0, 9, 15, 15)] D cI cS cL [.ref (hh 0), .int p1, .ref ho] ((ho, .inl (cL, 1, .inr (.inl oF))) :: wX7 cI cS hh vCar vGoa vEag tN tF cN cF mP mS kCap kGap kCar kCop kGro kShr bN bF rCmd rLet rNum fCap fGap fCar fCop fGro fShr hX hC hR) ((ho, .inl (cL, 1, .inr (.inl oF))) :: wX7 cI cS hh vCar vGoa vEag tN tF cN cF mP mS kCap kGap kCar kCop kGro kShr bN bF rCmd rLet rNum fCap fGap fCar fCop fGro fShr hX hC hR) 2 := by
  refine ent_w (by decide +kernel) (Nat.le_of_ble_eq_true rfl) ?_
  intro p e s m args below meth c A ls hx hb hr hml hlocks hg hown hK hP hD hS hA hl htab hZ
  have hown : s.vm.findClass RL = some m.cls := hown
  have hl : lv_has ls 4 [(0, .ref (hh 0)), (1, .int p1), (2, .ref ho)] := hl
  have hP : va_P D vwCl ((ho, .inl (cL, 1, .inr (.inl oF))) :: wX7 cI cS hh vCar vGoa vEag tN tF cN cF mP mS kCap kGap kCar kCop kGro kShr bN bF rCmd rLet rNum fCap fGap fCar fCop fGro fShr hX hC hR) s.heap := hP
  have hD : va_D A ((ho, .inl (cL, 1, .inr (.inl oF))) :: wX7 cI cS hh vCar vGoa vEag tN tF cN cF mP mS kCap kGap kCar kCop kGro kShr bN bF rCmd rLet rNum fCap fGap fCar fCop fGro fShr hX hC hR) := hD
  refine lv_aload_n hx hb dL_copy_0 rfl (lv_at hl 2 rfl) ?_
  refine lv_iconst (v := 0) hx hb dL_copy_1 (by decide) ?_
  refine lv_aload_n hx hb dL_copy_2 rfl (lv_at hl 0 rfl) ?_
  refine lv_iload_n hx hb dL_copy_3 rfl (lv_at hl 1 rfl) ?_
  refine cX_i (As := [.int p1]) (rest := [.int 0, .ref ho]) (wc := wX7 cI cS hh vCar vGoa vEag tN tF cN cF mP mS kCap kGap kCar kCop kGro kShr bN bF rCmd rLet rNum fCap fGap fCar fCop fGro fShr hX hC hR) (wc' := wX7 cI cS hh vCar vGoa vEag tN tF cN cF mP mS kCap kGap kCar kCop kGro kShr bN bF rCmd rLet rNum fCap fGap fCar fCop fGro fShr hX hC hR) (ws' := ((ho, .inl (cL, 1, .inr (.inl oF))) :: wX7 cI cS hh vCar vGoa vEag tN tF cN cF mP mS kCap kGap kCar kCop kGro kShr bN bF rCmd rLet rNum fCap fGap fCar fCop fGro fShr hX hC hR)) hx hb hml hown hg hK hP hD hS hA hl.1 hZ (t_X7_copy l hlt D cI cS cL Z hh p1 vCar vGoa vEag tN tF cN cF mP mS kCap kGap kCar kCop kGro kShr bN bF rCmd rLet rNum fCap fGap fCar fCop fGro fShr hX hC hR h) gm_X7_copy gw_719 ⟨rfl, rfl, by decide, by decide⟩ ⟨by decide, by decide⟩ pm_o pm_o fst_X7 rfl rfl rfl rfl rfl (Nat.le_of_ble_eq_true rfl) dL_copy_4 [(⟨0, 9, 12, 30⟩ : ExceptionTableEntry)] (⟨0, 9, 15, 15⟩ : ExceptionTableEntry) [] htab (fun z hz => by cases List.mem_singleton.mp hz; exact Or.inr ⟨by decide, _, hg _ gw_670, hK.2.2.2.2.1⟩) (by decide) (by decide) (hg _ gw_493) (kk_nest hK nw_576) (fun q9 H locs hP hD hS => ?_)
  refine lv_astore_n (lv' := [(3, .ref q9), (0, .ref (hh 0)), (1, .int p1), (2, .ref ho)]) hx hb dL_copy_15 rfl hl (by decide) rfl (fun ls hl => ?_)
  refine lv_iconst (v := 2) hx hb dL_copy_16 (by decide) ?_
  exact ret_w hx hb hr hlocks hP hD hS (by decide) (by decide) dL_copy_17 rfl
abbrev rw_L_costOf : Room := { frames := 8, cells := 1, slots := 6, locals := 123 }
set_option maxRecDepth 100000 in
set_option maxHeartbeats 4000000 in
theorem k_L_costOf (l : Launch) (D : va_G) (cI cS cL : ClassId) (Z : Nat) (hh : Nat → Nat) (ho : Nat) (p1 : Int32) (p2 : Int32) (vCar : Int32) (vGoa : Int32) (vEag : Int32) (tN : Int32) (tF : Nat → Int32) (cN : Int32) (cF : Nat → Int32) (mP : Nat → Int32) (mS : Nat → Int32) (kCap : Int32) (kGap : Int32) (kCar : Int32) (kCop : Int32) (kGro : Int32) (kShr : Int32) (bN : Int32) (bF : Nat → Int32) (rCmd : Int32) (rLet : Int32) (rNum : Int32) (fCap : Int32) (fGap : Int32) (fCar : Int32) (fCop : Int32) (fGro : Int32) (fShr : Int32) (hX : Int32) (hC : Int32) (hR : Nat → StT) (oF : Nat → Int64) {r : Int32} {fCap' : Int32} {fGap' : Int32} {fCar' : Int32} {fCop' : Int32} {fGro' : Int32} {fShr' : Int32} (h : f_X7_costOf Z p1 p2 tN kCap kGap kCar kCop kGro kShr fCap fGap fCar fCop fGro fShr = some (.inl (r, fCap', fGap', fCar', fCop', fGro', fShr'))) : CWI l yL_costOf cL_costOf 5 rw_L_costOf [(0, 10, 13, 30), (0, 10, 17, 13)] D cI cS cL [.ref (hh 0), .int p1, .int p2, .ref ho] ((ho, .inl (cL, 1, .inr (.inl oF))) :: wX7 cI cS hh vCar vGoa vEag tN tF cN cF mP mS kCap kGap kCar kCop kGro kShr bN bF rCmd rLet rNum fCap fGap fCar fCop fGro fShr hX hC hR) ((ho, .inl (cL, 1, .inr (.inl (vp_updL oF 0 (r : Int32).toInt64)))) :: wX7 cI cS hh vCar vGoa vEag tN tF cN cF mP mS kCap kGap kCar kCop kGro kShr bN bF rCmd rLet rNum fCap' fGap' fCar' fCop' fGro' fShr' hX hC hR) 0 := by
  refine ent_w (by decide +kernel) (Nat.le_of_ble_eq_true rfl) ?_
  intro p e s m args below meth c A ls hx hb hr hml hlocks hg hown hK hP hD hS hA hl htab hZ
  have hown : s.vm.findClass RL = some m.cls := hown
  have hl : lv_has ls 5 [(0, .ref (hh 0)), (1, .int p1), (2, .int p2), (3, .ref ho)] := hl
  have hP : va_P D vwCl ((ho, .inl (cL, 1, .inr (.inl oF))) :: wX7 cI cS hh vCar vGoa vEag tN tF cN cF mP mS kCap kGap kCar kCop kGro kShr bN bF rCmd rLet rNum fCap fGap fCar fCop fGro fShr hX hC hR) s.heap := hP
  have hD : va_D A ((ho, .inl (cL, 1, .inr (.inl oF))) :: wX7 cI cS hh vCar vGoa vEag tN tF cN cF mP mS kCap kGap kCar kCop kGro kShr bN bF rCmd rLet rNum fCap fGap fCar fCop fGro fShr hX hC hR) := hD
  refine lv_aload_n hx hb dL_costOf_0 rfl (lv_at hl 3 rfl) ?_
  refine lv_iconst (v := 0) hx hb dL_costOf_1 (by decide) ?_
  refine lv_aload_n hx hb dL_costOf_2 rfl (lv_at hl 0 rfl) ?_
  refine lv_iload_n hx hb dL_costOf_3 rfl (lv_at hl 1 rfl) ?_
  refine lv_iload_n hx hb dL_costOf_4 rfl (lv_at hl 2 rfl) ?_
  refine cP_i (As := [.int p1, .int p2]) (rest := [.int 0, .ref ho]) (wc := wX7 cI cS hh vCar vGoa vEag tN tF cN cF mP mS kCap kGap kCar kCop kGro kShr bN bF rCmd rLet rNum fCap fGap fCar fCop fGro fShr hX hC hR) (wc' := wX7 cI cS hh vCar vGoa vEag tN tF cN cF mP mS kCap kGap kCar kCop kGro kShr bN bF rCmd rLet rNum fCap' fGap' fCar' fCop' fGro' fShr' hX hC hR) (ws' := ((ho, .inl (cL, 1, .inr (.inl oF))) :: wX7 cI cS hh vCar vGoa vEag tN tF cN cF mP mS kCap kGap kCar kCop kGro kShr bN bF rCmd rLet rNum fCap' fGap' fCar' fCop' fGro' fShr' hX hC hR)) hx hb hml hown hg hK hP hD hS hA hl.1 (k_X7_costOf l D cI cS cL Z hh p1 p2 vCar vGoa vEag tN tF cN cF mP mS kCap kGap kCar kCop kGro kShr bN bF rCmd rLet rNum fCap fGap fCar fCop fGro fShr hX hC hR h) gm_X7_costOf gw_850 ⟨rfl, rfl, by decide, by decide⟩ ⟨Nat.zero_le _, Nat.zero_le _⟩ pm_o pm_o fst_X7 rfl rfl rfl rfl rfl (Nat.le_of_ble_eq_true rfl) dL_costOf_5 (fun H locs hP hD hS => ?_)
  refine lv_i2l (v := (r : Int32).toInt64) hx hb dL_costOf_8 rfl ?_
  refine va_last hx hb hK.1 hP hD hS 0 2 rfl rfl (i := 0) (vp_in_nI (n := 0) (by decide) (by decide)) dL_costOf_9 (fun H locs hP hD hS => ?_)
  have hP : va_P D vwCl ((ho, .inl (cL, 1, .inr (.inl (vp_updL oF 0 (r : Int32).toInt64)))) :: wX7 cI cS hh vCar vGoa vEag tN tF cN cF mP mS kCap kGap kCar kCop kGro kShr bN bF rCmd rLet rNum fCap' fGap' fCar' fCop' fGro' fShr' hX hC hR) H := hP
  have hD : va_D A ((ho, .inl (cL, 1, .inr (.inl (vp_updL oF 0 (r : Int32).toInt64)))) :: wX7 cI cS hh vCar vGoa vEag tN tF cN cF mP mS kCap kGap kCar kCop kGro kShr bN bF rCmd rLet rNum fCap' fGap' fCar' fCop' fGro' fShr' hX hC hR) := hD
  refine lv_goto (tgt := 21) hx hb dL_costOf_10 (by decide) ?_
  refine lv_iconst (v := 0) hx hb dL_costOf_21 (by decide) ?_
  exact ret_w hx hb hr hlocks hP hD hS (by decide) (by decide) dL_costOf_22 rfl
set_option maxRecDepth 100000 in
set_option maxHeartbeats 4000000 in
theorem t1_L_costOf (l : Launch) (hlt : l.stackTraces = false) (D : va_G) (cI cS cL : ClassId) (Z : Nat) (hh : Nat → Nat) (ho : Nat) (p1 : Int32) (p2 : Int32) (vCar : Int32) (vGoa : Int32) (vEag : Int32) (tN : Int32) (tF : Nat → Int32) (cN : Int32) (cF : Nat → Int32) (mP : Nat → Int32) (mS : Nat → Int32) (kCap : Int32) (kGap : Int32) (kCar : Int32) (kCop : Int32) (kGro : Int32) (kShr : Int32) (bN : Int32) (bF : Nat → Int32) (rCmd : Int32) (rLet : Int32) (rNum : Int32) (fCap : Int32) (fGap : Int32) (fCar : Int32) (fCop : Int32) (fGro : Int32) (fShr : Int32) (hX : Int32) (hC : Int32) (hR : Nat → StT) (oF : Nat → Int64)  (h : f_X7_costOf Z p1 p2 tN kCap kGap kCar kCop kGro kShr fCap fGap fCar fCop fGro fShr = some (.inr "java/lang/IndexOutOfBoundsException")) : CWI l yL_costOf cL_costOf 5 rw_L_costOf [(0, 10, 13, 30), (0, 10, 17, 13)] D cI cS cL [.ref (hh 0), .int p1, .int p2, .ref ho] ((ho, .inl (cL, 1, .inr (.inl oF))) :: wX7 cI cS hh vCar vGoa vEag tN tF cN cF mP mS kCap kGap kCar kCop kGro kShr bN bF rCmd rLet rNum fCap fGap fCar fCop fGro fShr hX hC hR) ((ho, .inl (cL, 1, .inr (.inl oF))) :: wX7 cI cS hh vCar vGoa vEag tN tF cN cF mP mS kCap kGap kCar kCop kGro kShr bN bF rCmd rLet rNum fCap fGap fCar fCop fGro fShr hX hC hR) 1 := by
  refine ent_w (by decide +kernel) (Nat.le_of_ble_eq_true rfl) ?_
  intro p e s m args below meth c A ls hx hb hr hml hlocks hg hown hK hP hD hS hA hl htab hZ
  have hown : s.vm.findClass RL = some m.cls := hown
  have hl : lv_has ls 5 [(0, .ref (hh 0)), (1, .int p1), (2, .int p2), (3, .ref ho)] := hl
  have hP : va_P D vwCl ((ho, .inl (cL, 1, .inr (.inl oF))) :: wX7 cI cS hh vCar vGoa vEag tN tF cN cF mP mS kCap kGap kCar kCop kGro kShr bN bF rCmd rLet rNum fCap fGap fCar fCop fGro fShr hX hC hR) s.heap := hP
  have hD : va_D A ((ho, .inl (cL, 1, .inr (.inl oF))) :: wX7 cI cS hh vCar vGoa vEag tN tF cN cF mP mS kCap kGap kCar kCop kGro kShr bN bF rCmd rLet rNum fCap fGap fCar fCop fGro fShr hX hC hR) := hD
  refine lv_aload_n hx hb dL_costOf_0 rfl (lv_at hl 3 rfl) ?_
  refine lv_iconst (v := 0) hx hb dL_costOf_1 (by decide) ?_
  refine lv_aload_n hx hb dL_costOf_2 rfl (lv_at hl 0 rfl) ?_
  refine lv_iload_n hx hb dL_costOf_3 rfl (lv_at hl 1 rfl) ?_
  refine lv_iload_n hx hb dL_costOf_4 rfl (lv_at hl 2 rfl) ?_
  refine cX_i (As := [.int p1, .int p2]) (rest := [.int 0, .ref ho]) (wc := wX7 cI cS hh vCar vGoa vEag tN tF cN cF mP mS kCap kGap kCar kCop kGro kShr bN bF rCmd rLet rNum fCap fGap fCar fCop fGro fShr hX hC hR) (wc' := wX7 cI cS hh vCar vGoa vEag tN tF cN cF mP mS kCap kGap kCar kCop kGro kShr bN bF rCmd rLet rNum fCap fGap fCar fCop fGro fShr hX hC hR) (ws' := ((ho, .inl (cL, 1, .inr (.inl oF))) :: wX7 cI cS hh vCar vGoa vEag tN tF cN cF mP mS kCap kGap kCar kCop kGro kShr bN bF rCmd rLet rNum fCap fGap fCar fCop fGro fShr hX hC hR)) hx hb hml hown hg hK hP hD hS hA hl.1 hZ (t_X7_costOf l hlt D cI cS cL Z hh p1 p2 vCar vGoa vEag tN tF cN cF mP mS kCap kGap kCar kCop kGro kShr bN bF rCmd rLet rNum fCap fGap fCar fCop fGro fShr hX hC hR h) gm_X7_costOf gw_850 ⟨rfl, rfl, by decide, by decide⟩ ⟨by decide, by decide⟩ pm_o pm_o fst_X7 rfl rfl rfl rfl rfl (Nat.le_of_ble_eq_true rfl) dL_costOf_5 [] (⟨0, 10, 13, 30⟩ : ExceptionTableEntry) [(⟨0, 10, 17, 13⟩ : ExceptionTableEntry)] htab (fun z hz => nomatch hz) (by decide) (by decide) (hg _ gw_670) (kk_nest hK nw_684) (fun q9 H locs hP hD hS => ?_)
  refine lv_astore (lv' := [(4, .ref q9), (0, .ref (hh 0)), (1, .int p1), (2, .int p2), (3, .ref ho)]) hx hb dL_costOf_13 hl (by decide) rfl (fun ls hl => ?_)
  refine lv_iconst (v := 1) hx hb dL_costOf_15 (by decide) ?_
  exact ret_w hx hb hr hlocks hP hD hS (by decide) (by decide) dL_costOf_16 rfl
set_option maxRecDepth 100000 in
set_option maxHeartbeats 4000000 in
theorem t2_L_costOf (l : Launch) (hlt : l.stackTraces = false) (D : va_G) (cI cS cL : ClassId) (Z : Nat) (hh : Nat → Nat) (ho : Nat) (p1 : Int32) (p2 : Int32) (vCar : Int32) (vGoa : Int32) (vEag : Int32) (tN : Int32) (tF : Nat → Int32) (cN : Int32) (cF : Nat → Int32) (mP : Nat → Int32) (mS : Nat → Int32) (kCap : Int32) (kGap : Int32) (kCar : Int32) (kCop : Int32) (kGro : Int32) (kShr : Int32) (bN : Int32) (bF : Nat → Int32) (rCmd : Int32) (rLet : Int32) (rNum : Int32) (fCap : Int32) (fGap : Int32) (fCar : Int32) (fCop : Int32) (fGro : Int32) (fShr : Int32) (hX : Int32) (hC : Int32) (hR : Nat → StT) (oF : Nat → Int64)  (h : f_X7_costOf Z p1 p2 tN kCap kGap kCar kCop kGro kShr fCap fGap fCar fCop fGro fShr = some (.inr "java/lang/IllegalArgumentException")) : CWI l yL_costOf cL_costOf 5 rw_L_costOf [(0, 10, 13, 30), (0, 10, 17, 13)] D cI cS cL [.ref (hh 0), .int p1, .int p2, .ref ho] ((ho, .inl (cL, 1, .inr (.inl oF))) :: wX7 cI cS hh vCar vGoa vEag tN tF cN cF mP mS kCap kGap kCar kCop kGro kShr bN bF rCmd rLet rNum fCap fGap fCar fCop fGro fShr hX hC hR) ((ho, .inl (cL, 1, .inr (.inl oF))) :: wX7 cI cS hh vCar vGoa vEag tN tF cN cF mP mS kCap kGap kCar kCop kGro kShr bN bF rCmd rLet rNum fCap fGap fCar fCop fGro fShr hX hC hR) 2 := by
  refine ent_w (by decide +kernel) (Nat.le_of_ble_eq_true rfl) ?_
  intro p e s m args below meth c A ls hx hb hr hml hlocks hg hown hK hP hD hS hA hl htab hZ
  have hown : s.vm.findClass RL = some m.cls := hown
  have hl : lv_has ls 5 [(0, .ref (hh 0)), (1, .int p1), (2, .int p2), (3, .ref ho)] := hl
  have hP : va_P D vwCl ((ho, .inl (cL, 1, .inr (.inl oF))) :: wX7 cI cS hh vCar vGoa vEag tN tF cN cF mP mS kCap kGap kCar kCop kGro kShr bN bF rCmd rLet rNum fCap fGap fCar fCop fGro fShr hX hC hR) s.heap := hP
  have hD : va_D A ((ho, .inl (cL, 1, .inr (.inl oF))) :: wX7 cI cS hh vCar vGoa vEag tN tF cN cF mP mS kCap kGap kCar kCop kGro kShr bN bF rCmd rLet rNum fCap fGap fCar fCop fGro fShr hX hC hR) := hD
  refine lv_aload_n hx hb dL_costOf_0 rfl (lv_at hl 3 rfl) ?_
  refine lv_iconst (v := 0) hx hb dL_costOf_1 (by decide) ?_
  refine lv_aload_n hx hb dL_costOf_2 rfl (lv_at hl 0 rfl) ?_
  refine lv_iload_n hx hb dL_costOf_3 rfl (lv_at hl 1 rfl) ?_
  refine lv_iload_n hx hb dL_costOf_4 rfl (lv_at hl 2 rfl) ?_
  refine cX_i (As := [.int p1, .int p2]) (rest := [.int 0, .ref ho]) (wc := wX7 cI cS hh vCar vGoa vEag tN tF cN cF mP mS kCap kGap kCar kCop kGro kShr bN bF rCmd rLet rNum fCap fGap fCar fCop fGro fShr hX hC hR) (wc' := wX7 cI cS hh vCar vGoa vEag tN tF cN cF mP mS kCap kGap kCar kCop kGro kShr bN bF rCmd rLet rNum fCap fGap fCar fCop fGro fShr hX hC hR) (ws' := ((ho, .inl (cL, 1, .inr (.inl oF))) :: wX7 cI cS hh vCar vGoa vEag tN tF cN cF mP mS kCap kGap kCar kCop kGro kShr bN bF rCmd rLet rNum fCap fGap fCar fCop fGro fShr hX hC hR)) hx hb hml hown hg hK hP hD hS hA hl.1 hZ (t_X7_costOf l hlt D cI cS cL Z hh p1 p2 vCar vGoa vEag tN tF cN cF mP mS kCap kGap kCar kCop kGro kShr bN bF rCmd rLet rNum fCap fGap fCar fCop fGro fShr hX hC hR h) gm_X7_costOf gw_850 ⟨rfl, rfl, by decide, by decide⟩ ⟨by decide, by decide⟩ pm_o pm_o fst_X7 rfl rfl rfl rfl rfl (Nat.le_of_ble_eq_true rfl) dL_costOf_5 [(⟨0, 10, 13, 30⟩ : ExceptionTableEntry)] (⟨0, 10, 17, 13⟩ : ExceptionTableEntry) [] htab (fun z hz => by cases List.mem_singleton.mp hz; exact Or.inr ⟨by decide, _, hg _ gw_670, hK.2.2.2.1⟩) (by decide) (by decide) (hg _ gw_492) (kk_nest hK nw_506) (fun q9 H locs hP hD hS => ?_)
  refine lv_astore (lv' := [(4, .ref q9), (0, .ref (hh 0)), (1, .int p1), (2, .int p2), (3, .ref ho)]) hx hb dL_costOf_17 hl (by decide) rfl (fun ls hl => ?_)
  refine lv_iconst (v := 2) hx hb dL_costOf_19 (by decide) ?_
  exact ret_w hx hb hr hlocks hP hD hS (by decide) (by decide) dL_costOf_20 rfl
abbrev rw_L_costOfTwo : Room := { frames := 8, cells := 1, slots := 6, locals := 124 }
set_option maxRecDepth 100000 in
set_option maxHeartbeats 4000000 in
theorem k_L_costOfTwo (l : Launch) (D : va_G) (cI cS cL : ClassId) (Z : Nat) (hh : Nat → Nat) (ho : Nat) (p1 : Int32) (p2 : Int32) (vCar : Int32) (vGoa : Int32) (vEag : Int32) (tN : Int32) (tF : Nat → Int32) (cN : Int32) (cF : Nat → Int32) (mP : Nat → Int32) (mS : Nat → Int32) (kCap : Int32) (kGap : Int32) (kCar : Int32) (kCop : Int32) (kGro : Int32) (kShr : Int32) (bN : Int32) (bF : Nat → Int32) (rCmd : Int32) (rLet : Int32) (rNum : Int32) (fCap : Int32) (fGap : Int32) (fCar : Int32) (fCop : Int32) (fGro : Int32) (fShr : Int32) (hX : Int32) (hC : Int32) (hR : Nat → StT) (oF : Nat → Int64) {r : Int32} {fCap' : Int32} {fGap' : Int32} {fCar' : Int32} {fCop' : Int32} {fGro' : Int32} {fShr' : Int32} (h : f_X7_costOfTwo Z p1 p2 tN kCap kGap kCar kCop kGro kShr fCap fGap fCar fCop fGro fShr = some (.inl (r, fCap', fGap', fCar', fCop', fGro', fShr'))) : CWI l yL_costOfTwo cL_costOfTwo 5 rw_L_costOfTwo [(0, 10, 13, 30)] D cI cS cL [.ref (hh 0), .int p1, .int p2, .ref ho] ((ho, .inl (cL, 1, .inr (.inl oF))) :: wX7 cI cS hh vCar vGoa vEag tN tF cN cF mP mS kCap kGap kCar kCop kGro kShr bN bF rCmd rLet rNum fCap fGap fCar fCop fGro fShr hX hC hR) ((ho, .inl (cL, 1, .inr (.inl (vp_updL oF 0 (r : Int32).toInt64)))) :: wX7 cI cS hh vCar vGoa vEag tN tF cN cF mP mS kCap kGap kCar kCop kGro kShr bN bF rCmd rLet rNum fCap' fGap' fCar' fCop' fGro' fShr' hX hC hR) 0 := by
  refine ent_w (by decide +kernel) (Nat.le_of_ble_eq_true rfl) ?_
  intro p e s m args below meth c A ls hx hb hr hml hlocks hg hown hK hP hD hS hA hl htab hZ
  have hown : s.vm.findClass RL = some m.cls := hown
  have hl : lv_has ls 5 [(0, .ref (hh 0)), (1, .int p1), (2, .int p2), (3, .ref ho)] := hl
  have hP : va_P D vwCl ((ho, .inl (cL, 1, .inr (.inl oF))) :: wX7 cI cS hh vCar vGoa vEag tN tF cN cF mP mS kCap kGap kCar kCop kGro kShr bN bF rCmd rLet rNum fCap fGap fCar fCop fGro fShr hX hC hR) s.heap := hP
  have hD : va_D A ((ho, .inl (cL, 1, .inr (.inl oF))) :: wX7 cI cS hh vCar vGoa vEag tN tF cN cF mP mS kCap kGap kCar kCop kGro kShr bN bF rCmd rLet rNum fCap fGap fCar fCop fGro fShr hX hC hR) := hD
  refine lv_aload_n hx hb dL_costOfTwo_0 rfl (lv_at hl 3 rfl) ?_
  refine lv_iconst (v := 0) hx hb dL_costOfTwo_1 (by decide) ?_
  refine lv_aload_n hx hb dL_costOfTwo_2 rfl (lv_at hl 0 rfl) ?_
  refine lv_iload_n hx hb dL_costOfTwo_3 rfl (lv_at hl 1 rfl) ?_
  refine lv_iload_n hx hb dL_costOfTwo_4 rfl (lv_at hl 2 rfl) ?_
  refine cP_i (As := [.int p1, .int p2]) (rest := [.int 0, .ref ho]) (wc := wX7 cI cS hh vCar vGoa vEag tN tF cN cF mP mS kCap kGap kCar kCop kGro kShr bN bF rCmd rLet rNum fCap fGap fCar fCop fGro fShr hX hC hR) (wc' := wX7 cI cS hh vCar vGoa vEag tN tF cN cF mP mS kCap kGap kCar kCop kGro kShr bN bF rCmd rLet rNum fCap' fGap' fCar' fCop' fGro' fShr' hX hC hR) (ws' := ((ho, .inl (cL, 1, .inr (.inl oF))) :: wX7 cI cS hh vCar vGoa vEag tN tF cN cF mP mS kCap kGap kCar kCop kGro kShr bN bF rCmd rLet rNum fCap' fGap' fCar' fCop' fGro' fShr' hX hC hR)) hx hb hml hown hg hK hP hD hS hA hl.1 (k_X7_costOfTwo l D cI cS cL Z hh p1 p2 vCar vGoa vEag tN tF cN cF mP mS kCap kGap kCar kCop kGro kShr bN bF rCmd rLet rNum fCap fGap fCar fCop fGro fShr hX hC hR h) gm_X7_costOfTwo gw_863 ⟨rfl, rfl, by decide, by decide⟩ ⟨Nat.zero_le _, Nat.zero_le _⟩ pm_o pm_o fst_X7 rfl rfl rfl rfl rfl (Nat.le_of_ble_eq_true rfl) dL_costOfTwo_5 (fun H locs hP hD hS => ?_)
  refine lv_i2l (v := (r : Int32).toInt64) hx hb dL_costOfTwo_8 rfl ?_
  refine va_last hx hb hK.1 hP hD hS 0 2 rfl rfl (i := 0) (vp_in_nI (n := 0) (by decide) (by decide)) dL_costOfTwo_9 (fun H locs hP hD hS => ?_)
  have hP : va_P D vwCl ((ho, .inl (cL, 1, .inr (.inl (vp_updL oF 0 (r : Int32).toInt64)))) :: wX7 cI cS hh vCar vGoa vEag tN tF cN cF mP mS kCap kGap kCar kCop kGro kShr bN bF rCmd rLet rNum fCap' fGap' fCar' fCop' fGro' fShr' hX hC hR) H := hP
  have hD : va_D A ((ho, .inl (cL, 1, .inr (.inl (vp_updL oF 0 (r : Int32).toInt64)))) :: wX7 cI cS hh vCar vGoa vEag tN tF cN cF mP mS kCap kGap kCar kCop kGro kShr bN bF rCmd rLet rNum fCap' fGap' fCar' fCop' fGro' fShr' hX hC hR) := hD
  refine lv_goto (tgt := 17) hx hb dL_costOfTwo_10 (by decide) ?_
  refine lv_iconst (v := 0) hx hb dL_costOfTwo_17 (by decide) ?_
  exact ret_w hx hb hr hlocks hP hD hS (by decide) (by decide) dL_costOfTwo_18 rfl
set_option maxRecDepth 100000 in
set_option maxHeartbeats 4000000 in
theorem t1_L_costOfTwo (l : Launch) (hlt : l.stackTraces = false) (D : va_G) (cI cS cL : ClassId) (Z : Nat) (hh : Nat → Nat) (ho : Nat) (p1 : Int32) (p2 : Int32) (vCar : Int32) (vGoa : Int32) (vEag : Int32) (tN : Int32) (tF : Nat → Int32) (cN : Int32) (cF : Nat → Int32) (mP : Nat → Int32) (mS : Nat → Int32) (kCap : Int32) (kGap : Int32) (kCar : Int32) (kCop : Int32) (kGro : Int32) (kShr : Int32) (bN : Int32) (bF : Nat → Int32) (rCmd : Int32) (rLet : Int32) (rNum : Int32) (fCap : Int32) (fGap : Int32) (fCar : Int32) (fCop : Int32) (fGro : Int32) (fShr : Int32) (hX : Int32) (hC : Int32) (hR : Nat → StT) (oF : Nat → Int64)  (h : f_X7_costOfTwo Z p1 p2 tN kCap kGap kCar kCop kGro kShr fCap fGap fCar fCop fGro fShr = some (.inr "java/lang/IndexOutOfBoundsException")) : CWI l yL_costOfTwo cL_costOfTwo 5 rw_L_costOfTwo [(0, 10, 13, 30)] D cI cS cL [.ref (hh 0), .int p1, .int p2, .ref ho] ((ho, .inl (cL, 1, .inr (.inl oF))) :: wX7 cI cS hh vCar vGoa vEag tN tF cN cF mP mS kCap kGap kCar kCop kGro kShr bN bF rCmd rLet rNum fCap fGap fCar fCop fGro fShr hX hC hR) ((ho, .inl (cL, 1, .inr (.inl oF))) :: wX7 cI cS hh vCar vGoa vEag tN tF cN cF mP mS kCap kGap kCar kCop kGro kShr bN bF rCmd rLet rNum fCap fGap fCar fCop fGro fShr hX hC hR) 1 := by
  refine ent_w (by decide +kernel) (Nat.le_of_ble_eq_true rfl) ?_
  intro p e s m args below meth c A ls hx hb hr hml hlocks hg hown hK hP hD hS hA hl htab hZ
  have hown : s.vm.findClass RL = some m.cls := hown
  have hl : lv_has ls 5 [(0, .ref (hh 0)), (1, .int p1), (2, .int p2), (3, .ref ho)] := hl
  have hP : va_P D vwCl ((ho, .inl (cL, 1, .inr (.inl oF))) :: wX7 cI cS hh vCar vGoa vEag tN tF cN cF mP mS kCap kGap kCar kCop kGro kShr bN bF rCmd rLet rNum fCap fGap fCar fCop fGro fShr hX hC hR) s.heap := hP
  have hD : va_D A ((ho, .inl (cL, 1, .inr (.inl oF))) :: wX7 cI cS hh vCar vGoa vEag tN tF cN cF mP mS kCap kGap kCar kCop kGro kShr bN bF rCmd rLet rNum fCap fGap fCar fCop fGro fShr hX hC hR) := hD
  refine lv_aload_n hx hb dL_costOfTwo_0 rfl (lv_at hl 3 rfl) ?_
  refine lv_iconst (v := 0) hx hb dL_costOfTwo_1 (by decide) ?_
  refine lv_aload_n hx hb dL_costOfTwo_2 rfl (lv_at hl 0 rfl) ?_
  refine lv_iload_n hx hb dL_costOfTwo_3 rfl (lv_at hl 1 rfl) ?_
  refine lv_iload_n hx hb dL_costOfTwo_4 rfl (lv_at hl 2 rfl) ?_
  refine cX_i (As := [.int p1, .int p2]) (rest := [.int 0, .ref ho]) (wc := wX7 cI cS hh vCar vGoa vEag tN tF cN cF mP mS kCap kGap kCar kCop kGro kShr bN bF rCmd rLet rNum fCap fGap fCar fCop fGro fShr hX hC hR) (wc' := wX7 cI cS hh vCar vGoa vEag tN tF cN cF mP mS kCap kGap kCar kCop kGro kShr bN bF rCmd rLet rNum fCap fGap fCar fCop fGro fShr hX hC hR) (ws' := ((ho, .inl (cL, 1, .inr (.inl oF))) :: wX7 cI cS hh vCar vGoa vEag tN tF cN cF mP mS kCap kGap kCar kCop kGro kShr bN bF rCmd rLet rNum fCap fGap fCar fCop fGro fShr hX hC hR)) hx hb hml hown hg hK hP hD hS hA hl.1 hZ (t_X7_costOfTwo l hlt D cI cS cL Z hh p1 p2 vCar vGoa vEag tN tF cN cF mP mS kCap kGap kCar kCop kGro kShr bN bF rCmd rLet rNum fCap fGap fCar fCop fGro fShr hX hC hR h) gm_X7_costOfTwo gw_863 ⟨rfl, rfl, by decide, by decide⟩ ⟨by decide, by decide⟩ pm_o pm_o fst_X7 rfl rfl rfl rfl rfl (Nat.le_of_ble_eq_true rfl) dL_costOfTwo_5 [] (⟨0, 10, 13, 30⟩ : ExceptionTableEntry) [] htab (fun z hz => nomatch hz) (by decide) (by decide) (hg _ gw_670) (kk_nest hK nw_684) (fun q9 H locs hP hD hS => ?_)
  refine lv_astore (lv' := [(4, .ref q9), (0, .ref (hh 0)), (1, .int p1), (2, .int p2), (3, .ref ho)]) hx hb dL_costOfTwo_13 hl (by decide) rfl (fun ls hl => ?_)
  refine lv_iconst (v := 1) hx hb dL_costOfTwo_15 (by decide) ?_
  exact ret_w hx hb hr hlocks hP hD hS (by decide) (by decide) dL_costOfTwo_16 rfl
abbrev rw_L_cut : Room := { frames := 8, cells := 1, slots := 6, locals := 131 }
set_option maxRecDepth 100000 in
set_option maxHeartbeats 4000000 in
theorem k_L_cut (l : Launch) (D : va_G) (cI cS cL : ClassId) (Z : Nat) (hh : Nat → Nat) (ho : Nat) (p1 : Int32) (vCar : Int32) (vGoa : Int32) (vEag : Int32) (tN : Int32) (tF : Nat → Int32) (cN : Int32) (cF : Nat → Int32) (mP : Nat → Int32) (mS : Nat → Int32) (kCap : Int32) (kGap : Int32) (kCar : Int32) (kCop : Int32) (kGro : Int32) (kShr : Int32) (bN : Int32) (bF : Nat → Int32) (rCmd : Int32) (rLet : Int32) (rNum : Int32) (fCap : Int32) (fGap : Int32) (fCar : Int32) (fCop : Int32) (fGro : Int32) (fShr : Int32) (hX : Int32) (hC : Int32) (hR : Nat → StT) (oF : Nat → Int64) {r : Int32} {vCar' : Int32} {vGoa' : Int32} {tN' : Int32} {tF' : Nat → Int32} {cN' : Int32} {cF' : Nat → Int32} {mP' : Nat → Int32} {kCap' : Int32} {kGap' : Int32} {kCar' : Int32} {kCop' : Int32} {kShr' : Int32} {hX' : Int32} {hC' : Int32} {hR' : Nat → StT} (h : f_X7_cut Z p1 vCar vGoa vEag tN tF cN cF mP mS kCap kGap kCar kCop kGro kShr hX hC hR = some (.inl (r, vCar', vGoa', tN', tF', cN', cF', mP', kCap', kGap', kCar', kCop', kShr', hX', hC', hR'))) : CWI l yL_cut cL_cut 4 rw_L_cut [(0, 9, 12, 30), (0, 9, 15, 15)] D cI cS cL [.ref (hh 0), .int p1, .ref ho] ((ho, .inl (cL, 1, .inr (.inl oF))) :: wX7 cI cS hh vCar vGoa vEag tN tF cN cF mP mS kCap kGap kCar kCop kGro kShr bN bF rCmd rLet rNum fCap fGap fCar fCop fGro fShr hX hC hR) ((ho, .inl (cL, 1, .inr (.inl (vp_updL oF 0 (r : Int32).toInt64)))) :: wX7 cI cS hh vCar' vGoa' vEag tN' tF' cN' cF' mP' mS kCap' kGap' kCar' kCop' kGro kShr' bN bF rCmd rLet rNum fCap fGap fCar fCop fGro fShr hX' hC' hR') 0 := by
  refine ent_w (by decide +kernel) (Nat.le_of_ble_eq_true rfl) ?_
  intro p e s m args below meth c A ls hx hb hr hml hlocks hg hown hK hP hD hS hA hl htab hZ
  have hown : s.vm.findClass RL = some m.cls := hown
  have hl : lv_has ls 4 [(0, .ref (hh 0)), (1, .int p1), (2, .ref ho)] := hl
  have hP : va_P D vwCl ((ho, .inl (cL, 1, .inr (.inl oF))) :: wX7 cI cS hh vCar vGoa vEag tN tF cN cF mP mS kCap kGap kCar kCop kGro kShr bN bF rCmd rLet rNum fCap fGap fCar fCop fGro fShr hX hC hR) s.heap := hP
  have hD : va_D A ((ho, .inl (cL, 1, .inr (.inl oF))) :: wX7 cI cS hh vCar vGoa vEag tN tF cN cF mP mS kCap kGap kCar kCop kGro kShr bN bF rCmd rLet rNum fCap fGap fCar fCop fGro fShr hX hC hR) := hD
  refine lv_aload_n hx hb dL_cut_0 rfl (lv_at hl 2 rfl) ?_
  refine lv_iconst (v := 0) hx hb dL_cut_1 (by decide) ?_
  refine lv_aload_n hx hb dL_cut_2 rfl (lv_at hl 0 rfl) ?_
  refine lv_iload_n hx hb dL_cut_3 rfl (lv_at hl 1 rfl) ?_
  refine cP_i (As := [.int p1]) (rest := [.int 0, .ref ho]) (wc := wX7 cI cS hh vCar vGoa vEag tN tF cN cF mP mS kCap kGap kCar kCop kGro kShr bN bF rCmd rLet rNum fCap fGap fCar fCop fGro fShr hX hC hR) (wc' := wX7 cI cS hh vCar' vGoa' vEag tN' tF' cN' cF' mP' mS kCap' kGap' kCar' kCop' kGro kShr' bN bF rCmd rLet rNum fCap fGap fCar fCop fGro fShr hX' hC' hR') (ws' := ((ho, .inl (cL, 1, .inr (.inl oF))) :: wX7 cI cS hh vCar' vGoa' vEag tN' tF' cN' cF' mP' mS kCap' kGap' kCar' kCop' kGro kShr' bN bF rCmd rLet rNum fCap fGap fCar fCop fGro fShr hX' hC' hR')) hx hb hml hown hg hK hP hD hS hA hl.1 (k_X7_cut l D cI cS cL Z hh p1 vCar vGoa vEag tN tF cN cF mP mS kCap kGap kCar kCop kGro kShr bN bF rCmd rLet rNum fCap fGap fCar fCop fGro fShr hX hC hR h) gm_X7_cut gw_736 ⟨rfl, rfl, by decide, by decide⟩ ⟨Nat.zero_le _, Nat.zero_le _⟩ pm_o pm_o fst_X7 rfl rfl rfl rfl rfl (Nat.le_of_ble_eq_true rfl) dL_cut_4 (fun H locs hP hD hS => ?_)
  refine lv_i2l (v := (r : Int32).toInt64) hx hb dL_cut_7 rfl ?_
  refine va_last hx hb hK.1 hP hD hS 0 2 rfl rfl (i := 0) (vp_in_nI (n := 0) (by decide) (by decide)) dL_cut_8 (fun H locs hP hD hS => ?_)
  have hP : va_P D vwCl ((ho, .inl (cL, 1, .inr (.inl (vp_updL oF 0 (r : Int32).toInt64)))) :: wX7 cI cS hh vCar' vGoa' vEag tN' tF' cN' cF' mP' mS kCap' kGap' kCar' kCop' kGro kShr' bN bF rCmd rLet rNum fCap fGap fCar fCop fGro fShr hX' hC' hR') H := hP
  have hD : va_D A ((ho, .inl (cL, 1, .inr (.inl (vp_updL oF 0 (r : Int32).toInt64)))) :: wX7 cI cS hh vCar' vGoa' vEag tN' tF' cN' cF' mP' mS kCap' kGap' kCar' kCop' kGro kShr' bN bF rCmd rLet rNum fCap fGap fCar fCop fGro fShr hX' hC' hR') := hD
  refine lv_goto (tgt := 18) hx hb dL_cut_9 (by decide) ?_
  refine lv_iconst (v := 0) hx hb dL_cut_18 (by decide) ?_
  exact ret_w hx hb hr hlocks hP hD hS (by decide) (by decide) dL_cut_19 rfl
set_option maxRecDepth 100000 in
set_option maxHeartbeats 4000000 in
theorem t1_L_cut (l : Launch) (hlt : l.stackTraces = false) (D : va_G) (cI cS cL : ClassId) (Z : Nat) (hh : Nat → Nat) (ho : Nat) (p1 : Int32) (vCar : Int32) (vGoa : Int32) (vEag : Int32) (tN : Int32) (tF : Nat → Int32) (cN : Int32) (cF : Nat → Int32) (mP : Nat → Int32) (mS : Nat → Int32) (kCap : Int32) (kGap : Int32) (kCar : Int32) (kCop : Int32) (kGro : Int32) (kShr : Int32) (bN : Int32) (bF : Nat → Int32) (rCmd : Int32) (rLet : Int32) (rNum : Int32) (fCap : Int32) (fGap : Int32) (fCar : Int32) (fCop : Int32) (fGro : Int32) (fShr : Int32) (hX : Int32) (hC : Int32) (hR : Nat → StT) (oF : Nat → Int64)  (h : f_X7_cut Z p1 vCar vGoa vEag tN tF cN cF mP mS kCap kGap kCar kCop kGro kShr hX hC hR = some (.inr "java/lang/IndexOutOfBoundsException")) : CWI l yL_cut cL_cut 4 rw_L_cut [(0, 9, 12, 30), (0, 9, 15, 15)] D cI cS cL [.ref (hh 0), .int p1, .ref ho] ((ho, .inl (cL, 1, .inr (.inl oF))) :: wX7 cI cS hh vCar vGoa vEag tN tF cN cF mP mS kCap kGap kCar kCop kGro kShr bN bF rCmd rLet rNum fCap fGap fCar fCop fGro fShr hX hC hR) ((ho, .inl (cL, 1, .inr (.inl oF))) :: wX7 cI cS hh vCar vGoa vEag tN tF cN cF mP mS kCap kGap kCar kCop kGro kShr bN bF rCmd rLet rNum fCap fGap fCar fCop fGro fShr hX hC hR) 1 := by
  refine ent_w (by decide +kernel) (Nat.le_of_ble_eq_true rfl) ?_
  intro p e s m args below meth c A ls hx hb hr hml hlocks hg hown hK hP hD hS hA hl htab hZ
  have hown : s.vm.findClass RL = some m.cls := hown
  have hl : lv_has ls 4 [(0, .ref (hh 0)), (1, .int p1), (2, .ref ho)] := hl
  have hP : va_P D vwCl ((ho, .inl (cL, 1, .inr (.inl oF))) :: wX7 cI cS hh vCar vGoa vEag tN tF cN cF mP mS kCap kGap kCar kCop kGro kShr bN bF rCmd rLet rNum fCap fGap fCar fCop fGro fShr hX hC hR) s.heap := hP
  have hD : va_D A ((ho, .inl (cL, 1, .inr (.inl oF))) :: wX7 cI cS hh vCar vGoa vEag tN tF cN cF mP mS kCap kGap kCar kCop kGro kShr bN bF rCmd rLet rNum fCap fGap fCar fCop fGro fShr hX hC hR) := hD
  refine lv_aload_n hx hb dL_cut_0 rfl (lv_at hl 2 rfl) ?_
  refine lv_iconst (v := 0) hx hb dL_cut_1 (by decide) ?_
  refine lv_aload_n hx hb dL_cut_2 rfl (lv_at hl 0 rfl) ?_
  refine lv_iload_n hx hb dL_cut_3 rfl (lv_at hl 1 rfl) ?_
  refine cX_i (As := [.int p1]) (rest := [.int 0, .ref ho]) (wc := wX7 cI cS hh vCar vGoa vEag tN tF cN cF mP mS kCap kGap kCar kCop kGro kShr bN bF rCmd rLet rNum fCap fGap fCar fCop fGro fShr hX hC hR) (wc' := wX7 cI cS hh vCar vGoa vEag tN tF cN cF mP mS kCap kGap kCar kCop kGro kShr bN bF rCmd rLet rNum fCap fGap fCar fCop fGro fShr hX hC hR) (ws' := ((ho, .inl (cL, 1, .inr (.inl oF))) :: wX7 cI cS hh vCar vGoa vEag tN tF cN cF mP mS kCap kGap kCar kCop kGro kShr bN bF rCmd rLet rNum fCap fGap fCar fCop fGro fShr hX hC hR)) hx hb hml hown hg hK hP hD hS hA hl.1 hZ (t_X7_cut l hlt D cI cS cL Z hh p1 vCar vGoa vEag tN tF cN cF mP mS kCap kGap kCar kCop kGro kShr bN bF rCmd rLet rNum fCap fGap fCar fCop fGro fShr hX hC hR h) gm_X7_cut gw_736 ⟨rfl, rfl, by decide, by decide⟩ ⟨by decide, by decide⟩ pm_o pm_o fst_X7 rfl rfl rfl rfl rfl (Nat.le_of_ble_eq_true rfl) dL_cut_4 [] (⟨0, 9, 12, 30⟩ : ExceptionTableEntry) [(⟨0, 9, 15, 15⟩ : ExceptionTableEntry)] htab (fun z hz => nomatch hz) (by decide) (by decide) (hg _ gw_670) (kk_nest hK nw_684) (fun q9 H locs hP hD hS => ?_)
  refine lv_astore_n (lv' := [(3, .ref q9), (0, .ref (hh 0)), (1, .int p1), (2, .ref ho)]) hx hb dL_cut_12 rfl hl (by decide) rfl (fun ls hl => ?_)
  refine lv_iconst (v := 1) hx hb dL_cut_13 (by decide) ?_
  exact ret_w hx hb hr hlocks hP hD hS (by decide) (by decide) dL_cut_14 rfl
set_option maxRecDepth 100000 in
set_option maxHeartbeats 4000000 in
theorem t2_L_cut (l : Launch) (hlt : l.stackTraces = false) (D : va_G) (cI cS cL : ClassId) (Z : Nat) (hh : Nat → Nat) (ho : Nat) (p1 : Int32) (vCar : Int32) (vGoa : Int32) (vEag : Int32) (tN : Int32) (tF : Nat → Int32) (cN : Int32) (cF : Nat → Int32) (mP : Nat → Int32) (mS : Nat → Int32) (kCap : Int32) (kGap : Int32) (kCar : Int32) (kCop : Int32) (kGro : Int32) (kShr : Int32) (bN : Int32) (bF : Nat → Int32) (rCmd : Int32) (rLet : Int32) (rNum : Int32) (fCap : Int32) (fGap : Int32) (fCar : Int32) (fCop : Int32) (fGro : Int32) (fShr : Int32) (hX : Int32) (hC : Int32) (hR : Nat → StT) (oF : Nat → Int64)  (h : f_X7_cut Z p1 vCar vGoa vEag tN tF cN cF mP mS kCap kGap kCar kCop kGro kShr hX hC hR = some (.inr "java/lang/IllegalStateException")) : CWI l yL_cut cL_cut 4 rw_L_cut [(0, 9, 12, 30), (0, 9, 15, 15)] D cI cS cL [.ref (hh 0), .int p1, .ref ho] ((ho, .inl (cL, 1, .inr (.inl oF))) :: wX7 cI cS hh vCar vGoa vEag tN tF cN cF mP mS kCap kGap kCar kCop kGro kShr bN bF rCmd rLet rNum fCap fGap fCar fCop fGro fShr hX hC hR) ((ho, .inl (cL, 1, .inr (.inl oF))) :: wX7 cI cS hh vCar vGoa vEag tN tF cN cF mP mS kCap kGap kCar kCop kGro kShr bN bF rCmd rLet rNum fCap fGap fCar fCop fGro fShr hX hC hR) 2 := by
  refine ent_w (by decide +kernel) (Nat.le_of_ble_eq_true rfl) ?_
  intro p e s m args below meth c A ls hx hb hr hml hlocks hg hown hK hP hD hS hA hl htab hZ
  have hown : s.vm.findClass RL = some m.cls := hown
  have hl : lv_has ls 4 [(0, .ref (hh 0)), (1, .int p1), (2, .ref ho)] := hl
  have hP : va_P D vwCl ((ho, .inl (cL, 1, .inr (.inl oF))) :: wX7 cI cS hh vCar vGoa vEag tN tF cN cF mP mS kCap kGap kCar kCop kGro kShr bN bF rCmd rLet rNum fCap fGap fCar fCop fGro fShr hX hC hR) s.heap := hP
  have hD : va_D A ((ho, .inl (cL, 1, .inr (.inl oF))) :: wX7 cI cS hh vCar vGoa vEag tN tF cN cF mP mS kCap kGap kCar kCop kGro kShr bN bF rCmd rLet rNum fCap fGap fCar fCop fGro fShr hX hC hR) := hD
  refine lv_aload_n hx hb dL_cut_0 rfl (lv_at hl 2 rfl) ?_
  refine lv_iconst (v := 0) hx hb dL_cut_1 (by decide) ?_
  refine lv_aload_n hx hb dL_cut_2 rfl (lv_at hl 0 rfl) ?_
  refine lv_iload_n hx hb dL_cut_3 rfl (lv_at hl 1 rfl) ?_
  refine cX_i (As := [.int p1]) (rest := [.int 0, .ref ho]) (wc := wX7 cI cS hh vCar vGoa vEag tN tF cN cF mP mS kCap kGap kCar kCop kGro kShr bN bF rCmd rLet rNum fCap fGap fCar fCop fGro fShr hX hC hR) (wc' := wX7 cI cS hh vCar vGoa vEag tN tF cN cF mP mS kCap kGap kCar kCop kGro kShr bN bF rCmd rLet rNum fCap fGap fCar fCop fGro fShr hX hC hR) (ws' := ((ho, .inl (cL, 1, .inr (.inl oF))) :: wX7 cI cS hh vCar vGoa vEag tN tF cN cF mP mS kCap kGap kCar kCop kGro kShr bN bF rCmd rLet rNum fCap fGap fCar fCop fGro fShr hX hC hR)) hx hb hml hown hg hK hP hD hS hA hl.1 hZ (t_X7_cut l hlt D cI cS cL Z hh p1 vCar vGoa vEag tN tF cN cF mP mS kCap kGap kCar kCop kGro kShr bN bF rCmd rLet rNum fCap fGap fCar fCop fGro fShr hX hC hR h) gm_X7_cut gw_736 ⟨rfl, rfl, by decide, by decide⟩ ⟨by decide, by decide⟩ pm_o pm_o fst_X7 rfl rfl rfl rfl rfl (Nat.le_of_ble_eq_true rfl) dL_cut_4 [(⟨0, 9, 12, 30⟩ : ExceptionTableEntry)] (⟨0, 9, 15, 15⟩ : ExceptionTableEntry) [] htab (fun z hz => by cases List.mem_singleton.mp hz; exact Or.inr ⟨by decide, _, hg _ gw_670, hK.2.2.2.2.1⟩) (by decide) (by decide) (hg _ gw_493) (kk_nest hK nw_576) (fun q9 H locs hP hD hS => ?_)
  refine lv_astore_n (lv' := [(3, .ref q9), (0, .ref (hh 0)), (1, .int p1), (2, .ref ho)]) hx hb dL_cut_15 rfl hl (by decide) rfl (fun ls hl => ?_)
  refine lv_iconst (v := 2) hx hb dL_cut_16 (by decide) ?_
  exact ret_w hx hb hr hlocks hP hD hS (by decide) (by decide) dL_cut_17 rfl
abbrev rw_L_erase : Room := { frames := 8, cells := 1, slots := 6, locals := 132 }
set_option maxRecDepth 100000 in
set_option maxHeartbeats 4000000 in
theorem k_L_erase (l : Launch) (D : va_G) (cI cS cL : ClassId) (Z : Nat) (hh : Nat → Nat) (ho : Nat) (p1 : Int32) (vCar : Int32) (vGoa : Int32) (vEag : Int32) (tN : Int32) (tF : Nat → Int32) (cN : Int32) (cF : Nat → Int32) (mP : Nat → Int32) (mS : Nat → Int32) (kCap : Int32) (kGap : Int32) (kCar : Int32) (kCop : Int32) (kGro : Int32) (kShr : Int32) (bN : Int32) (bF : Nat → Int32) (rCmd : Int32) (rLet : Int32) (rNum : Int32) (fCap : Int32) (fGap : Int32) (fCar : Int32) (fCop : Int32) (fGro : Int32) (fShr : Int32) (hX : Int32) (hC : Int32) (hR : Nat → StT) (oF : Nat → Int64) {r : Int32} {vCar' : Int32} {vGoa' : Int32} {tN' : Int32} {tF' : Nat → Int32} {mP' : Nat → Int32} {kCap' : Int32} {kGap' : Int32} {kCar' : Int32} {kCop' : Int32} {kShr' : Int32} {hX' : Int32} {hC' : Int32} {hR' : Nat → StT} (h : f_X7_erase Z p1 vCar vGoa vEag tN tF cN cF mP mS kCap kGap kCar kCop kGro kShr hX hC hR = some (.inl (r, vCar', vGoa', tN', tF', mP', kCap', kGap', kCar', kCop', kShr', hX', hC', hR'))) : CWI l yL_erase cL_erase 4 rw_L_erase [(0, 9, 12, 13)] D cI cS cL [.ref (hh 0), .int p1, .ref ho] ((ho, .inl (cL, 1, .inr (.inl oF))) :: wX7 cI cS hh vCar vGoa vEag tN tF cN cF mP mS kCap kGap kCar kCop kGro kShr bN bF rCmd rLet rNum fCap fGap fCar fCop fGro fShr hX hC hR) ((ho, .inl (cL, 1, .inr (.inl (vp_updL oF 0 (r : Int32).toInt64)))) :: wX7 cI cS hh vCar' vGoa' vEag tN' tF' cN cF mP' mS kCap' kGap' kCar' kCop' kGro kShr' bN bF rCmd rLet rNum fCap fGap fCar fCop fGro fShr hX' hC' hR') 0 := by
  refine ent_w (by decide +kernel) (Nat.le_of_ble_eq_true rfl) ?_
  intro p e s m args below meth c A ls hx hb hr hml hlocks hg hown hK hP hD hS hA hl htab hZ
  have hown : s.vm.findClass RL = some m.cls := hown
  have hl : lv_has ls 4 [(0, .ref (hh 0)), (1, .int p1), (2, .ref ho)] := hl
  have hP : va_P D vwCl ((ho, .inl (cL, 1, .inr (.inl oF))) :: wX7 cI cS hh vCar vGoa vEag tN tF cN cF mP mS kCap kGap kCar kCop kGro kShr bN bF rCmd rLet rNum fCap fGap fCar fCop fGro fShr hX hC hR) s.heap := hP
  have hD : va_D A ((ho, .inl (cL, 1, .inr (.inl oF))) :: wX7 cI cS hh vCar vGoa vEag tN tF cN cF mP mS kCap kGap kCar kCop kGro kShr bN bF rCmd rLet rNum fCap fGap fCar fCop fGro fShr hX hC hR) := hD
  refine lv_aload_n hx hb dL_erase_0 rfl (lv_at hl 2 rfl) ?_
  refine lv_iconst (v := 0) hx hb dL_erase_1 (by decide) ?_
  refine lv_aload_n hx hb dL_erase_2 rfl (lv_at hl 0 rfl) ?_
  refine lv_iload_n hx hb dL_erase_3 rfl (lv_at hl 1 rfl) ?_
  refine cP_i (As := [.int p1]) (rest := [.int 0, .ref ho]) (wc := wX7 cI cS hh vCar vGoa vEag tN tF cN cF mP mS kCap kGap kCar kCop kGro kShr bN bF rCmd rLet rNum fCap fGap fCar fCop fGro fShr hX hC hR) (wc' := wX7 cI cS hh vCar' vGoa' vEag tN' tF' cN cF mP' mS kCap' kGap' kCar' kCop' kGro kShr' bN bF rCmd rLet rNum fCap fGap fCar fCop fGro fShr hX' hC' hR') (ws' := ((ho, .inl (cL, 1, .inr (.inl oF))) :: wX7 cI cS hh vCar' vGoa' vEag tN' tF' cN cF mP' mS kCap' kGap' kCar' kCop' kGro kShr' bN bF rCmd rLet rNum fCap fGap fCar fCop fGro fShr hX' hC' hR')) hx hb hml hown hg hK hP hD hS hA hl.1 (k_X7_erase l D cI cS cL Z hh p1 vCar vGoa vEag tN tF cN cF mP mS kCap kGap kCar kCop kGro kShr bN bF rCmd rLet rNum fCap fGap fCar fCop fGro fShr hX hC hR h) gm_X7_erase gw_627 ⟨rfl, rfl, by decide, by decide⟩ ⟨Nat.zero_le _, Nat.zero_le _⟩ pm_o pm_o fst_X7 rfl rfl rfl rfl rfl (Nat.le_of_ble_eq_true rfl) dL_erase_4 (fun H locs hP hD hS => ?_)
  refine lv_i2l (v := (r : Int32).toInt64) hx hb dL_erase_7 rfl ?_
  refine va_last hx hb hK.1 hP hD hS 0 2 rfl rfl (i := 0) (vp_in_nI (n := 0) (by decide) (by decide)) dL_erase_8 (fun H locs hP hD hS => ?_)
  have hP : va_P D vwCl ((ho, .inl (cL, 1, .inr (.inl (vp_updL oF 0 (r : Int32).toInt64)))) :: wX7 cI cS hh vCar' vGoa' vEag tN' tF' cN cF mP' mS kCap' kGap' kCar' kCop' kGro kShr' bN bF rCmd rLet rNum fCap fGap fCar fCop fGro fShr hX' hC' hR') H := hP
  have hD : va_D A ((ho, .inl (cL, 1, .inr (.inl (vp_updL oF 0 (r : Int32).toInt64)))) :: wX7 cI cS hh vCar' vGoa' vEag tN' tF' cN cF mP' mS kCap' kGap' kCar' kCop' kGro kShr' bN bF rCmd rLet rNum fCap fGap fCar fCop fGro fShr hX' hC' hR') := hD
  refine lv_goto (tgt := 15) hx hb dL_erase_9 (by decide) ?_
  refine lv_iconst (v := 0) hx hb dL_erase_15 (by decide) ?_
  exact ret_w hx hb hr hlocks hP hD hS (by decide) (by decide) dL_erase_16 rfl
set_option maxRecDepth 100000 in
set_option maxHeartbeats 4000000 in
theorem t1_L_erase (l : Launch) (hlt : l.stackTraces = false) (D : va_G) (cI cS cL : ClassId) (Z : Nat) (hh : Nat → Nat) (ho : Nat) (p1 : Int32) (vCar : Int32) (vGoa : Int32) (vEag : Int32) (tN : Int32) (tF : Nat → Int32) (cN : Int32) (cF : Nat → Int32) (mP : Nat → Int32) (mS : Nat → Int32) (kCap : Int32) (kGap : Int32) (kCar : Int32) (kCop : Int32) (kGro : Int32) (kShr : Int32) (bN : Int32) (bF : Nat → Int32) (rCmd : Int32) (rLet : Int32) (rNum : Int32) (fCap : Int32) (fGap : Int32) (fCar : Int32) (fCop : Int32) (fGro : Int32) (fShr : Int32) (hX : Int32) (hC : Int32) (hR : Nat → StT) (oF : Nat → Int64)  (h : f_X7_erase Z p1 vCar vGoa vEag tN tF cN cF mP mS kCap kGap kCar kCop kGro kShr hX hC hR = some (.inr "java/lang/IllegalArgumentException")) : CWI l yL_erase cL_erase 4 rw_L_erase [(0, 9, 12, 13)] D cI cS cL [.ref (hh 0), .int p1, .ref ho] ((ho, .inl (cL, 1, .inr (.inl oF))) :: wX7 cI cS hh vCar vGoa vEag tN tF cN cF mP mS kCap kGap kCar kCop kGro kShr bN bF rCmd rLet rNum fCap fGap fCar fCop fGro fShr hX hC hR) ((ho, .inl (cL, 1, .inr (.inl oF))) :: wX7 cI cS hh vCar vGoa vEag tN tF cN cF mP mS kCap kGap kCar kCop kGro kShr bN bF rCmd rLet rNum fCap fGap fCar fCop fGro fShr hX hC hR) 1 := by
  refine ent_w (by decide +kernel) (Nat.le_of_ble_eq_true rfl) ?_
  intro p e s m args below meth c A ls hx hb hr hml hlocks hg hown hK hP hD hS hA hl htab hZ
  have hown : s.vm.findClass RL = some m.cls := hown
  have hl : lv_has ls 4 [(0, .ref (hh 0)), (1, .int p1), (2, .ref ho)] := hl
  have hP : va_P D vwCl ((ho, .inl (cL, 1, .inr (.inl oF))) :: wX7 cI cS hh vCar vGoa vEag tN tF cN cF mP mS kCap kGap kCar kCop kGro kShr bN bF rCmd rLet rNum fCap fGap fCar fCop fGro fShr hX hC hR) s.heap := hP
  have hD : va_D A ((ho, .inl (cL, 1, .inr (.inl oF))) :: wX7 cI cS hh vCar vGoa vEag tN tF cN cF mP mS kCap kGap kCar kCop kGro kShr bN bF rCmd rLet rNum fCap fGap fCar fCop fGro fShr hX hC hR) := hD
  refine lv_aload_n hx hb dL_erase_0 rfl (lv_at hl 2 rfl) ?_
  refine lv_iconst (v := 0) hx hb dL_erase_1 (by decide) ?_
  refine lv_aload_n hx hb dL_erase_2 rfl (lv_at hl 0 rfl) ?_
  refine lv_iload_n hx hb dL_erase_3 rfl (lv_at hl 1 rfl) ?_
  refine cX_i (As := [.int p1]) (rest := [.int 0, .ref ho]) (wc := wX7 cI cS hh vCar vGoa vEag tN tF cN cF mP mS kCap kGap kCar kCop kGro kShr bN bF rCmd rLet rNum fCap fGap fCar fCop fGro fShr hX hC hR) (wc' := wX7 cI cS hh vCar vGoa vEag tN tF cN cF mP mS kCap kGap kCar kCop kGro kShr bN bF rCmd rLet rNum fCap fGap fCar fCop fGro fShr hX hC hR) (ws' := ((ho, .inl (cL, 1, .inr (.inl oF))) :: wX7 cI cS hh vCar vGoa vEag tN tF cN cF mP mS kCap kGap kCar kCop kGro kShr bN bF rCmd rLet rNum fCap fGap fCar fCop fGro fShr hX hC hR)) hx hb hml hown hg hK hP hD hS hA hl.1 hZ (t_X7_erase l hlt D cI cS cL Z hh p1 vCar vGoa vEag tN tF cN cF mP mS kCap kGap kCar kCop kGro kShr bN bF rCmd rLet rNum fCap fGap fCar fCop fGro fShr hX hC hR h) gm_X7_erase gw_627 ⟨rfl, rfl, by decide, by decide⟩ ⟨by decide, by decide⟩ pm_o pm_o fst_X7 rfl rfl rfl rfl rfl (Nat.le_of_ble_eq_true rfl) dL_erase_4 [] (⟨0, 9, 12, 13⟩ : ExceptionTableEntry) [] htab (fun z hz => nomatch hz) (by decide) (by decide) (hg _ gw_492) (kk_nest hK nw_506) (fun q9 H locs hP hD hS => ?_)
  refine lv_astore_n (lv' := [(3, .ref q9), (0, .ref (hh 0)), (1, .int p1), (2, .ref ho)]) hx hb dL_erase_12 rfl hl (by decide) rfl (fun ls hl => ?_)
  refine lv_iconst (v := 1) hx hb dL_erase_13 (by decide) ?_
  exact ret_w hx hb hr hlocks hP hD hS (by decide) (by decide) dL_erase_14 rfl
abbrev rw_L_fill : Room := { frames := 8, cells := 1, slots := 6, locals := 135 }
set_option maxRecDepth 100000 in
set_option maxHeartbeats 4000000 in
theorem k_L_fill (l : Launch) (D : va_G) (cI cS cL : ClassId) (Z : Nat) (hh : Nat → Nat) (ho : Nat) (p1 : Int32) (p2 : Int32) (vCar : Int32) (vGoa : Int32) (vEag : Int32) (tN : Int32) (tF : Nat → Int32) (cN : Int32) (cF : Nat → Int32) (mP : Nat → Int32) (mS : Nat → Int32) (kCap : Int32) (kGap : Int32) (kCar : Int32) (kCop : Int32) (kGro : Int32) (kShr : Int32) (bN : Int32) (bF : Nat → Int32) (rCmd : Int32) (rLet : Int32) (rNum : Int32) (fCap : Int32) (fGap : Int32) (fCar : Int32) (fCop : Int32) (fGro : Int32) (fShr : Int32) (hX : Int32) (hC : Int32) (hR : Nat → StT) (oF : Nat → Int64) {r : Int32} {vCar' : Int32} {vGoa' : Int32} {tN' : Int32} {tF' : Nat → Int32} {mP' : Nat → Int32} {kCap' : Int32} {kGap' : Int32} {kCar' : Int32} {kCop' : Int32} {kGro' : Int32} {hX' : Int32} {hC' : Int32} {hR' : Nat → StT} (h : f_X7_fill Z p1 p2 vCar vGoa vEag tN tF cN cF mP mS kCap kGap kCar kCop kGro kShr hX hC hR = some (.inl (r, vCar', vGoa', tN', tF', mP', kCap', kGap', kCar', kCop', kGro', hX', hC', hR'))) : CWI l yL_fill cL_fill 5 rw_L_fill [(0, 10, 13, 13), (0, 10, 17, 15)] D cI cS cL [.ref (hh 0), .int p1, .int p2, .ref ho] ((ho, .inl (cL, 1, .inr (.inl oF))) :: wX7 cI cS hh vCar vGoa vEag tN tF cN cF mP mS kCap kGap kCar kCop kGro kShr bN bF rCmd rLet rNum fCap fGap fCar fCop fGro fShr hX hC hR) ((ho, .inl (cL, 1, .inr (.inl (vp_updL oF 0 (r : Int32).toInt64)))) :: wX7 cI cS hh vCar' vGoa' vEag tN' tF' cN cF mP' mS kCap' kGap' kCar' kCop' kGro' kShr bN bF rCmd rLet rNum fCap fGap fCar fCop fGro fShr hX' hC' hR') 0 := by
  refine ent_w (by decide +kernel) (Nat.le_of_ble_eq_true rfl) ?_
  intro p e s m args below meth c A ls hx hb hr hml hlocks hg hown hK hP hD hS hA hl htab hZ
  have hown : s.vm.findClass RL = some m.cls := hown
  have hl : lv_has ls 5 [(0, .ref (hh 0)), (1, .int p1), (2, .int p2), (3, .ref ho)] := hl
  have hP : va_P D vwCl ((ho, .inl (cL, 1, .inr (.inl oF))) :: wX7 cI cS hh vCar vGoa vEag tN tF cN cF mP mS kCap kGap kCar kCop kGro kShr bN bF rCmd rLet rNum fCap fGap fCar fCop fGro fShr hX hC hR) s.heap := hP
  have hD : va_D A ((ho, .inl (cL, 1, .inr (.inl oF))) :: wX7 cI cS hh vCar vGoa vEag tN tF cN cF mP mS kCap kGap kCar kCop kGro kShr bN bF rCmd rLet rNum fCap fGap fCar fCop fGro fShr hX hC hR) := hD
  refine lv_aload_n hx hb dL_fill_0 rfl (lv_at hl 3 rfl) ?_
  refine lv_iconst (v := 0) hx hb dL_fill_1 (by decide) ?_
  refine lv_aload_n hx hb dL_fill_2 rfl (lv_at hl 0 rfl) ?_
  refine lv_iload_n hx hb dL_fill_3 rfl (lv_at hl 1 rfl) ?_
  refine lv_iload_n hx hb dL_fill_4 rfl (lv_at hl 2 rfl) ?_
  refine cP_i (As := [.int p1, .int p2]) (rest := [.int 0, .ref ho]) (wc := wX7 cI cS hh vCar vGoa vEag tN tF cN cF mP mS kCap kGap kCar kCop kGro kShr bN bF rCmd rLet rNum fCap fGap fCar fCop fGro fShr hX hC hR) (wc' := wX7 cI cS hh vCar' vGoa' vEag tN' tF' cN cF mP' mS kCap' kGap' kCar' kCop' kGro' kShr bN bF rCmd rLet rNum fCap fGap fCar fCop fGro fShr hX' hC' hR') (ws' := ((ho, .inl (cL, 1, .inr (.inl oF))) :: wX7 cI cS hh vCar' vGoa' vEag tN' tF' cN cF mP' mS kCap' kGap' kCar' kCop' kGro' kShr bN bF rCmd rLet rNum fCap fGap fCar fCop fGro fShr hX' hC' hR')) hx hb hml hown hg hK hP hD hS hA hl.1 (k_X7_fill l D cI cS cL Z hh p1 p2 vCar vGoa vEag tN tF cN cF mP mS kCap kGap kCar kCop kGro kShr bN bF rCmd rLet rNum fCap fGap fCar fCop fGro fShr hX hC hR h) gm_X7_fill gw_617 ⟨rfl, rfl, by decide, by decide⟩ ⟨Nat.zero_le _, Nat.zero_le _⟩ pm_o pm_o fst_X7 rfl rfl rfl rfl rfl (Nat.le_of_ble_eq_true rfl) dL_fill_5 (fun H locs hP hD hS => ?_)
  refine lv_i2l (v := (r : Int32).toInt64) hx hb dL_fill_8 rfl ?_
  refine va_last hx hb hK.1 hP hD hS 0 2 rfl rfl (i := 0) (vp_in_nI (n := 0) (by decide) (by decide)) dL_fill_9 (fun H locs hP hD hS => ?_)
  have hP : va_P D vwCl ((ho, .inl (cL, 1, .inr (.inl (vp_updL oF 0 (r : Int32).toInt64)))) :: wX7 cI cS hh vCar' vGoa' vEag tN' tF' cN cF mP' mS kCap' kGap' kCar' kCop' kGro' kShr bN bF rCmd rLet rNum fCap fGap fCar fCop fGro fShr hX' hC' hR') H := hP
  have hD : va_D A ((ho, .inl (cL, 1, .inr (.inl (vp_updL oF 0 (r : Int32).toInt64)))) :: wX7 cI cS hh vCar' vGoa' vEag tN' tF' cN cF mP' mS kCap' kGap' kCar' kCop' kGro' kShr bN bF rCmd rLet rNum fCap fGap fCar fCop fGro fShr hX' hC' hR') := hD
  refine lv_goto (tgt := 21) hx hb dL_fill_10 (by decide) ?_
  refine lv_iconst (v := 0) hx hb dL_fill_21 (by decide) ?_
  exact ret_w hx hb hr hlocks hP hD hS (by decide) (by decide) dL_fill_22 rfl
set_option maxRecDepth 100000 in
set_option maxHeartbeats 4000000 in
theorem t1_L_fill (l : Launch) (hlt : l.stackTraces = false) (D : va_G) (cI cS cL : ClassId) (Z : Nat) (hh : Nat → Nat) (ho : Nat) (p1 : Int32) (p2 : Int32) (vCar : Int32) (vGoa : Int32) (vEag : Int32) (tN : Int32) (tF : Nat → Int32) (cN : Int32) (cF : Nat → Int32) (mP : Nat → Int32) (mS : Nat → Int32) (kCap : Int32) (kGap : Int32) (kCar : Int32) (kCop : Int32) (kGro : Int32) (kShr : Int32) (bN : Int32) (bF : Nat → Int32) (rCmd : Int32) (rLet : Int32) (rNum : Int32) (fCap : Int32) (fGap : Int32) (fCar : Int32) (fCop : Int32) (fGro : Int32) (fShr : Int32) (hX : Int32) (hC : Int32) (hR : Nat → StT) (oF : Nat → Int64)  (h : f_X7_fill Z p1 p2 vCar vGoa vEag tN tF cN cF mP mS kCap kGap kCar kCop kGro kShr hX hC hR = some (.inr "java/lang/IllegalArgumentException")) : CWI l yL_fill cL_fill 5 rw_L_fill [(0, 10, 13, 13), (0, 10, 17, 15)] D cI cS cL [.ref (hh 0), .int p1, .int p2, .ref ho] ((ho, .inl (cL, 1, .inr (.inl oF))) :: wX7 cI cS hh vCar vGoa vEag tN tF cN cF mP mS kCap kGap kCar kCop kGro kShr bN bF rCmd rLet rNum fCap fGap fCar fCop fGro fShr hX hC hR) ((ho, .inl (cL, 1, .inr (.inl oF))) :: wX7 cI cS hh vCar vGoa vEag tN tF cN cF mP mS kCap kGap kCar kCop kGro kShr bN bF rCmd rLet rNum fCap fGap fCar fCop fGro fShr hX hC hR) 1 := by
  refine ent_w (by decide +kernel) (Nat.le_of_ble_eq_true rfl) ?_
  intro p e s m args below meth c A ls hx hb hr hml hlocks hg hown hK hP hD hS hA hl htab hZ
  have hown : s.vm.findClass RL = some m.cls := hown
  have hl : lv_has ls 5 [(0, .ref (hh 0)), (1, .int p1), (2, .int p2), (3, .ref ho)] := hl
  have hP : va_P D vwCl ((ho, .inl (cL, 1, .inr (.inl oF))) :: wX7 cI cS hh vCar vGoa vEag tN tF cN cF mP mS kCap kGap kCar kCop kGro kShr bN bF rCmd rLet rNum fCap fGap fCar fCop fGro fShr hX hC hR) s.heap := hP
  have hD : va_D A ((ho, .inl (cL, 1, .inr (.inl oF))) :: wX7 cI cS hh vCar vGoa vEag tN tF cN cF mP mS kCap kGap kCar kCop kGro kShr bN bF rCmd rLet rNum fCap fGap fCar fCop fGro fShr hX hC hR) := hD
  refine lv_aload_n hx hb dL_fill_0 rfl (lv_at hl 3 rfl) ?_
  refine lv_iconst (v := 0) hx hb dL_fill_1 (by decide) ?_
  refine lv_aload_n hx hb dL_fill_2 rfl (lv_at hl 0 rfl) ?_
  refine lv_iload_n hx hb dL_fill_3 rfl (lv_at hl 1 rfl) ?_
  refine lv_iload_n hx hb dL_fill_4 rfl (lv_at hl 2 rfl) ?_
  refine cX_i (As := [.int p1, .int p2]) (rest := [.int 0, .ref ho]) (wc := wX7 cI cS hh vCar vGoa vEag tN tF cN cF mP mS kCap kGap kCar kCop kGro kShr bN bF rCmd rLet rNum fCap fGap fCar fCop fGro fShr hX hC hR) (wc' := wX7 cI cS hh vCar vGoa vEag tN tF cN cF mP mS kCap kGap kCar kCop kGro kShr bN bF rCmd rLet rNum fCap fGap fCar fCop fGro fShr hX hC hR) (ws' := ((ho, .inl (cL, 1, .inr (.inl oF))) :: wX7 cI cS hh vCar vGoa vEag tN tF cN cF mP mS kCap kGap kCar kCop kGro kShr bN bF rCmd rLet rNum fCap fGap fCar fCop fGro fShr hX hC hR)) hx hb hml hown hg hK hP hD hS hA hl.1 hZ (t_X7_fill l hlt D cI cS cL Z hh p1 p2 vCar vGoa vEag tN tF cN cF mP mS kCap kGap kCar kCop kGro kShr bN bF rCmd rLet rNum fCap fGap fCar fCop fGro fShr hX hC hR h) gm_X7_fill gw_617 ⟨rfl, rfl, by decide, by decide⟩ ⟨by decide, by decide⟩ pm_o pm_o fst_X7 rfl rfl rfl rfl rfl (Nat.le_of_ble_eq_true rfl) dL_fill_5 [] (⟨0, 10, 13, 13⟩ : ExceptionTableEntry) [(⟨0, 10, 17, 15⟩ : ExceptionTableEntry)] htab (fun z hz => nomatch hz) (by decide) (by decide) (hg _ gw_492) (kk_nest hK nw_506) (fun q9 H locs hP hD hS => ?_)
  refine lv_astore (lv' := [(4, .ref q9), (0, .ref (hh 0)), (1, .int p1), (2, .int p2), (3, .ref ho)]) hx hb dL_fill_13 hl (by decide) rfl (fun ls hl => ?_)
  refine lv_iconst (v := 1) hx hb dL_fill_15 (by decide) ?_
  exact ret_w hx hb hr hlocks hP hD hS (by decide) (by decide) dL_fill_16 rfl
set_option maxRecDepth 100000 in
set_option maxHeartbeats 4000000 in
theorem t2_L_fill (l : Launch) (hlt : l.stackTraces = false) (D : va_G) (cI cS cL : ClassId) (Z : Nat) (hh : Nat → Nat) (ho : Nat) (p1 : Int32) (p2 : Int32) (vCar : Int32) (vGoa : Int32) (vEag : Int32) (tN : Int32) (tF : Nat → Int32) (cN : Int32) (cF : Nat → Int32) (mP : Nat → Int32) (mS : Nat → Int32) (kCap : Int32) (kGap : Int32) (kCar : Int32) (kCop : Int32) (kGro : Int32) (kShr : Int32) (bN : Int32) (bF : Nat → Int32) (rCmd : Int32) (rLet : Int32) (rNum : Int32) (fCap : Int32) (fGap : Int32) (fCar : Int32) (fCop : Int32) (fGro : Int32) (fShr : Int32) (hX : Int32) (hC : Int32) (hR : Nat → StT) (oF : Nat → Int64)  (h : f_X7_fill Z p1 p2 vCar vGoa vEag tN tF cN cF mP mS kCap kGap kCar kCop kGro kShr hX hC hR = some (.inr "java/lang/IllegalStateException")) : CWI l yL_fill cL_fill 5 rw_L_fill [(0, 10, 13, 13), (0, 10, 17, 15)] D cI cS cL [.ref (hh 0), .int p1, .int p2, .ref ho] ((ho, .inl (cL, 1, .inr (.inl oF))) :: wX7 cI cS hh vCar vGoa vEag tN tF cN cF mP mS kCap kGap kCar kCop kGro kShr bN bF rCmd rLet rNum fCap fGap fCar fCop fGro fShr hX hC hR) ((ho, .inl (cL, 1, .inr (.inl oF))) :: wX7 cI cS hh vCar vGoa vEag tN tF cN cF mP mS kCap kGap kCar kCop kGro kShr bN bF rCmd rLet rNum fCap fGap fCar fCop fGro fShr hX hC hR) 2 := by
  refine ent_w (by decide +kernel) (Nat.le_of_ble_eq_true rfl) ?_
  intro p e s m args below meth c A ls hx hb hr hml hlocks hg hown hK hP hD hS hA hl htab hZ
  have hown : s.vm.findClass RL = some m.cls := hown
  have hl : lv_has ls 5 [(0, .ref (hh 0)), (1, .int p1), (2, .int p2), (3, .ref ho)] := hl
  have hP : va_P D vwCl ((ho, .inl (cL, 1, .inr (.inl oF))) :: wX7 cI cS hh vCar vGoa vEag tN tF cN cF mP mS kCap kGap kCar kCop kGro kShr bN bF rCmd rLet rNum fCap fGap fCar fCop fGro fShr hX hC hR) s.heap := hP
  have hD : va_D A ((ho, .inl (cL, 1, .inr (.inl oF))) :: wX7 cI cS hh vCar vGoa vEag tN tF cN cF mP mS kCap kGap kCar kCop kGro kShr bN bF rCmd rLet rNum fCap fGap fCar fCop fGro fShr hX hC hR) := hD
  refine lv_aload_n hx hb dL_fill_0 rfl (lv_at hl 3 rfl) ?_
  refine lv_iconst (v := 0) hx hb dL_fill_1 (by decide) ?_
  refine lv_aload_n hx hb dL_fill_2 rfl (lv_at hl 0 rfl) ?_
  refine lv_iload_n hx hb dL_fill_3 rfl (lv_at hl 1 rfl) ?_
  refine lv_iload_n hx hb dL_fill_4 rfl (lv_at hl 2 rfl) ?_
  refine cX_i (As := [.int p1, .int p2]) (rest := [.int 0, .ref ho]) (wc := wX7 cI cS hh vCar vGoa vEag tN tF cN cF mP mS kCap kGap kCar kCop kGro kShr bN bF rCmd rLet rNum fCap fGap fCar fCop fGro fShr hX hC hR) (wc' := wX7 cI cS hh vCar vGoa vEag tN tF cN cF mP mS kCap kGap kCar kCop kGro kShr bN bF rCmd rLet rNum fCap fGap fCar fCop fGro fShr hX hC hR) (ws' := ((ho, .inl (cL, 1, .inr (.inl oF))) :: wX7 cI cS hh vCar vGoa vEag tN tF cN cF mP mS kCap kGap kCar kCop kGro kShr bN bF rCmd rLet rNum fCap fGap fCar fCop fGro fShr hX hC hR)) hx hb hml hown hg hK hP hD hS hA hl.1 hZ (t_X7_fill l hlt D cI cS cL Z hh p1 p2 vCar vGoa vEag tN tF cN cF mP mS kCap kGap kCar kCop kGro kShr bN bF rCmd rLet rNum fCap fGap fCar fCop fGro fShr hX hC hR h) gm_X7_fill gw_617 ⟨rfl, rfl, by decide, by decide⟩ ⟨by decide, by decide⟩ pm_o pm_o fst_X7 rfl rfl rfl rfl rfl (Nat.le_of_ble_eq_true rfl) dL_fill_5 [(⟨0, 10, 13, 13⟩ : ExceptionTableEntry)] (⟨0, 10, 17, 15⟩ : ExceptionTableEntry) [] htab (fun z hz => by cases List.mem_singleton.mp hz; exact Or.inr ⟨by decide, _, hg _ gw_492, hK.2.2.1⟩) (by decide) (by decide) (hg _ gw_493) (kk_nest hK nw_576) (fun q9 H locs hP hD hS => ?_)
  refine lv_astore (lv' := [(4, .ref q9), (0, .ref (hh 0)), (1, .int p1), (2, .int p2), (3, .ref ho)]) hx hb dL_fill_17 hl (by decide) rfl (fun ls hl => ?_)
  refine lv_iconst (v := 2) hx hb dL_fill_19 (by decide) ?_
  exact ret_w hx hb hr hlocks hP hD hS (by decide) (by decide) dL_fill_20 rfl
abbrev rw_L_find : Room := { frames := 8, cells := 1, slots := 6, locals := 122 }
set_option maxRecDepth 100000 in
set_option maxHeartbeats 4000000 in
theorem k_L_find (l : Launch) (D : va_G) (cI cS cL : ClassId) (Z : Nat) (hh : Nat → Nat) (ho : Nat) (p1 : Int32) (vCar : Int32) (vGoa : Int32) (vEag : Int32) (tN : Int32) (tF : Nat → Int32) (cN : Int32) (cF : Nat → Int32) (mP : Nat → Int32) (mS : Nat → Int32) (kCap : Int32) (kGap : Int32) (kCar : Int32) (kCop : Int32) (kGro : Int32) (kShr : Int32) (bN : Int32) (bF : Nat → Int32) (rCmd : Int32) (rLet : Int32) (rNum : Int32) (fCap : Int32) (fGap : Int32) (fCar : Int32) (fCop : Int32) (fGro : Int32) (fShr : Int32) (hX : Int32) (hC : Int32) (hR : Nat → StT) (oF : Nat → Int64) {r : Int32}  (h : f_X7_find Z p1 tN tF cN cF = some (.inl r)) : CWI l yL_find cL_find 4 rw_L_find [(0, 9, 12, 30)] D cI cS cL [.ref (hh 0), .int p1, .ref ho] ((ho, .inl (cL, 1, .inr (.inl oF))) :: wX7 cI cS hh vCar vGoa vEag tN tF cN cF mP mS kCap kGap kCar kCop kGro kShr bN bF rCmd rLet rNum fCap fGap fCar fCop fGro fShr hX hC hR) ((ho, .inl (cL, 1, .inr (.inl (vp_updL oF 0 (r : Int32).toInt64)))) :: wX7 cI cS hh vCar vGoa vEag tN tF cN cF mP mS kCap kGap kCar kCop kGro kShr bN bF rCmd rLet rNum fCap fGap fCar fCop fGro fShr hX hC hR) 0 := by
  refine ent_w (by decide +kernel) (Nat.le_of_ble_eq_true rfl) ?_
  intro p e s m args below meth c A ls hx hb hr hml hlocks hg hown hK hP hD hS hA hl htab hZ
  have hown : s.vm.findClass RL = some m.cls := hown
  have hl : lv_has ls 4 [(0, .ref (hh 0)), (1, .int p1), (2, .ref ho)] := hl
  have hP : va_P D vwCl ((ho, .inl (cL, 1, .inr (.inl oF))) :: wX7 cI cS hh vCar vGoa vEag tN tF cN cF mP mS kCap kGap kCar kCop kGro kShr bN bF rCmd rLet rNum fCap fGap fCar fCop fGro fShr hX hC hR) s.heap := hP
  have hD : va_D A ((ho, .inl (cL, 1, .inr (.inl oF))) :: wX7 cI cS hh vCar vGoa vEag tN tF cN cF mP mS kCap kGap kCar kCop kGro kShr bN bF rCmd rLet rNum fCap fGap fCar fCop fGro fShr hX hC hR) := hD
  refine lv_aload_n hx hb dL_find_0 rfl (lv_at hl 2 rfl) ?_
  refine lv_iconst (v := 0) hx hb dL_find_1 (by decide) ?_
  refine lv_aload_n hx hb dL_find_2 rfl (lv_at hl 0 rfl) ?_
  refine lv_iload_n hx hb dL_find_3 rfl (lv_at hl 1 rfl) ?_
  refine cP_i (As := [.int p1]) (rest := [.int 0, .ref ho]) (wc := wX7 cI cS hh vCar vGoa vEag tN tF cN cF mP mS kCap kGap kCar kCop kGro kShr bN bF rCmd rLet rNum fCap fGap fCar fCop fGro fShr hX hC hR) (wc' := wX7 cI cS hh vCar vGoa vEag tN tF cN cF mP mS kCap kGap kCar kCop kGro kShr bN bF rCmd rLet rNum fCap fGap fCar fCop fGro fShr hX hC hR) (ws' := ((ho, .inl (cL, 1, .inr (.inl oF))) :: wX7 cI cS hh vCar vGoa vEag tN tF cN cF mP mS kCap kGap kCar kCop kGro kShr bN bF rCmd rLet rNum fCap fGap fCar fCop fGro fShr hX hC hR)) hx hb hml hown hg hK hP hD hS hA hl.1 (k_X7_find l D cI cS cL Z hh p1 vCar vGoa vEag tN tF cN cF mP mS kCap kGap kCar kCop kGro kShr bN bF rCmd rLet rNum fCap fGap fCar fCop fGro fShr hX hC hR h) gm_X7_find gw_779 ⟨rfl, rfl, by decide, by decide⟩ ⟨Nat.zero_le _, Nat.zero_le _⟩ pm_o pm_o fst_X7 rfl rfl rfl rfl rfl (Nat.le_of_ble_eq_true rfl) dL_find_4 (fun H locs hP hD hS => ?_)
  refine lv_i2l (v := (r : Int32).toInt64) hx hb dL_find_7 rfl ?_
  refine va_last hx hb hK.1 hP hD hS 0 2 rfl rfl (i := 0) (vp_in_nI (n := 0) (by decide) (by decide)) dL_find_8 (fun H locs hP hD hS => ?_)
  have hP : va_P D vwCl ((ho, .inl (cL, 1, .inr (.inl (vp_updL oF 0 (r : Int32).toInt64)))) :: wX7 cI cS hh vCar vGoa vEag tN tF cN cF mP mS kCap kGap kCar kCop kGro kShr bN bF rCmd rLet rNum fCap fGap fCar fCop fGro fShr hX hC hR) H := hP
  have hD : va_D A ((ho, .inl (cL, 1, .inr (.inl (vp_updL oF 0 (r : Int32).toInt64)))) :: wX7 cI cS hh vCar vGoa vEag tN tF cN cF mP mS kCap kGap kCar kCop kGro kShr bN bF rCmd rLet rNum fCap fGap fCar fCop fGro fShr hX hC hR) := hD
  refine lv_goto (tgt := 15) hx hb dL_find_9 (by decide) ?_
  refine lv_iconst (v := 0) hx hb dL_find_15 (by decide) ?_
  exact ret_w hx hb hr hlocks hP hD hS (by decide) (by decide) dL_find_16 rfl
set_option maxRecDepth 100000 in
set_option maxHeartbeats 4000000 in
theorem t1_L_find (l : Launch) (hlt : l.stackTraces = false) (D : va_G) (cI cS cL : ClassId) (Z : Nat) (hh : Nat → Nat) (ho : Nat) (p1 : Int32) (vCar : Int32) (vGoa : Int32) (vEag : Int32) (tN : Int32) (tF : Nat → Int32) (cN : Int32) (cF : Nat → Int32) (mP : Nat → Int32) (mS : Nat → Int32) (kCap : Int32) (kGap : Int32) (kCar : Int32) (kCop : Int32) (kGro : Int32) (kShr : Int32) (bN : Int32) (bF : Nat → Int32) (rCmd : Int32) (rLet : Int32) (rNum : Int32) (fCap : Int32) (fGap : Int32) (fCar : Int32) (fCop : Int32) (fGro : Int32) (fShr : Int32) (hX : Int32) (hC : Int32) (hR : Nat → StT) (oF : Nat → Int64)  (h : f_X7_find Z p1 tN tF cN cF = some (.inr "java/lang/IndexOutOfBoundsException")) : CWI l yL_find cL_find 4 rw_L_find [(0, 9, 12, 30)] D cI cS cL [.ref (hh 0), .int p1, .ref ho] ((ho, .inl (cL, 1, .inr (.inl oF))) :: wX7 cI cS hh vCar vGoa vEag tN tF cN cF mP mS kCap kGap kCar kCop kGro kShr bN bF rCmd rLet rNum fCap fGap fCar fCop fGro fShr hX hC hR) ((ho, .inl (cL, 1, .inr (.inl oF))) :: wX7 cI cS hh vCar vGoa vEag tN tF cN cF mP mS kCap kGap kCar kCop kGro kShr bN bF rCmd rLet rNum fCap fGap fCar fCop fGro fShr hX hC hR) 1 := by
  refine ent_w (by decide +kernel) (Nat.le_of_ble_eq_true rfl) ?_
  intro p e s m args below meth c A ls hx hb hr hml hlocks hg hown hK hP hD hS hA hl htab hZ
  have hown : s.vm.findClass RL = some m.cls := hown
  have hl : lv_has ls 4 [(0, .ref (hh 0)), (1, .int p1), (2, .ref ho)] := hl
  have hP : va_P D vwCl ((ho, .inl (cL, 1, .inr (.inl oF))) :: wX7 cI cS hh vCar vGoa vEag tN tF cN cF mP mS kCap kGap kCar kCop kGro kShr bN bF rCmd rLet rNum fCap fGap fCar fCop fGro fShr hX hC hR) s.heap := hP
  have hD : va_D A ((ho, .inl (cL, 1, .inr (.inl oF))) :: wX7 cI cS hh vCar vGoa vEag tN tF cN cF mP mS kCap kGap kCar kCop kGro kShr bN bF rCmd rLet rNum fCap fGap fCar fCop fGro fShr hX hC hR) := hD
  refine lv_aload_n hx hb dL_find_0 rfl (lv_at hl 2 rfl) ?_
  refine lv_iconst (v := 0) hx hb dL_find_1 (by decide) ?_
  refine lv_aload_n hx hb dL_find_2 rfl (lv_at hl 0 rfl) ?_
  refine lv_iload_n hx hb dL_find_3 rfl (lv_at hl 1 rfl) ?_
  refine cX_i (As := [.int p1]) (rest := [.int 0, .ref ho]) (wc := wX7 cI cS hh vCar vGoa vEag tN tF cN cF mP mS kCap kGap kCar kCop kGro kShr bN bF rCmd rLet rNum fCap fGap fCar fCop fGro fShr hX hC hR) (wc' := wX7 cI cS hh vCar vGoa vEag tN tF cN cF mP mS kCap kGap kCar kCop kGro kShr bN bF rCmd rLet rNum fCap fGap fCar fCop fGro fShr hX hC hR) (ws' := ((ho, .inl (cL, 1, .inr (.inl oF))) :: wX7 cI cS hh vCar vGoa vEag tN tF cN cF mP mS kCap kGap kCar kCop kGro kShr bN bF rCmd rLet rNum fCap fGap fCar fCop fGro fShr hX hC hR)) hx hb hml hown hg hK hP hD hS hA hl.1 hZ (t_X7_find l hlt D cI cS cL Z hh p1 vCar vGoa vEag tN tF cN cF mP mS kCap kGap kCar kCop kGro kShr bN bF rCmd rLet rNum fCap fGap fCar fCop fGro fShr hX hC hR h) gm_X7_find gw_779 ⟨rfl, rfl, by decide, by decide⟩ ⟨by decide, by decide⟩ pm_o pm_o fst_X7 rfl rfl rfl rfl rfl (Nat.le_of_ble_eq_true rfl) dL_find_4 [] (⟨0, 9, 12, 30⟩ : ExceptionTableEntry) [] htab (fun z hz => nomatch hz) (by decide) (by decide) (hg _ gw_670) (kk_nest hK nw_684) (fun q9 H locs hP hD hS => ?_)
  refine lv_astore_n (lv' := [(3, .ref q9), (0, .ref (hh 0)), (1, .int p1), (2, .ref ho)]) hx hb dL_find_12 rfl hl (by decide) rfl (fun ls hl => ?_)
  refine lv_iconst (v := 1) hx hb dL_find_13 (by decide) ?_
  exact ret_w hx hb hr hlocks hP hD hS (by decide) (by decide) dL_find_14 rfl
abbrev rw_L_lineLength : Room := { frames := 8, cells := 1, slots := 6, locals := 123 }
set_option maxRecDepth 100000 in
set_option maxHeartbeats 4000000 in
theorem k_L_lineLength (l : Launch) (D : va_G) (cI cS cL : ClassId) (Z : Nat) (hh : Nat → Nat) (ho : Nat) (p1 : Int32) (vCar : Int32) (vGoa : Int32) (vEag : Int32) (tN : Int32) (tF : Nat → Int32) (cN : Int32) (cF : Nat → Int32) (mP : Nat → Int32) (mS : Nat → Int32) (kCap : Int32) (kGap : Int32) (kCar : Int32) (kCop : Int32) (kGro : Int32) (kShr : Int32) (bN : Int32) (bF : Nat → Int32) (rCmd : Int32) (rLet : Int32) (rNum : Int32) (fCap : Int32) (fGap : Int32) (fCar : Int32) (fCop : Int32) (fGro : Int32) (fShr : Int32) (hX : Int32) (hC : Int32) (hR : Nat → StT) (oF : Nat → Int64) {r : Int32}  (h : f_X7_lineLength Z p1 tN tF = some (.inl r)) : CWI l yL_lineLength cL_lineLength 4 rw_L_lineLength [(0, 9, 12, 30)] D cI cS cL [.ref (hh 0), .int p1, .ref ho] ((ho, .inl (cL, 1, .inr (.inl oF))) :: wX7 cI cS hh vCar vGoa vEag tN tF cN cF mP mS kCap kGap kCar kCop kGro kShr bN bF rCmd rLet rNum fCap fGap fCar fCop fGro fShr hX hC hR) ((ho, .inl (cL, 1, .inr (.inl (vp_updL oF 0 (r : Int32).toInt64)))) :: wX7 cI cS hh vCar vGoa vEag tN tF cN cF mP mS kCap kGap kCar kCop kGro kShr bN bF rCmd rLet rNum fCap fGap fCar fCop fGro fShr hX hC hR) 0 := by
  refine ent_w (by decide +kernel) (Nat.le_of_ble_eq_true rfl) ?_
  intro p e s m args below meth c A ls hx hb hr hml hlocks hg hown hK hP hD hS hA hl htab hZ
  have hown : s.vm.findClass RL = some m.cls := hown
  have hl : lv_has ls 4 [(0, .ref (hh 0)), (1, .int p1), (2, .ref ho)] := hl
  have hP : va_P D vwCl ((ho, .inl (cL, 1, .inr (.inl oF))) :: wX7 cI cS hh vCar vGoa vEag tN tF cN cF mP mS kCap kGap kCar kCop kGro kShr bN bF rCmd rLet rNum fCap fGap fCar fCop fGro fShr hX hC hR) s.heap := hP
  have hD : va_D A ((ho, .inl (cL, 1, .inr (.inl oF))) :: wX7 cI cS hh vCar vGoa vEag tN tF cN cF mP mS kCap kGap kCar kCop kGro kShr bN bF rCmd rLet rNum fCap fGap fCar fCop fGro fShr hX hC hR) := hD
  refine lv_aload_n hx hb dL_lineLength_0 rfl (lv_at hl 2 rfl) ?_
  refine lv_iconst (v := 0) hx hb dL_lineLength_1 (by decide) ?_
  refine lv_aload_n hx hb dL_lineLength_2 rfl (lv_at hl 0 rfl) ?_
  refine lv_iload_n hx hb dL_lineLength_3 rfl (lv_at hl 1 rfl) ?_
  refine cP_i (As := [.int p1]) (rest := [.int 0, .ref ho]) (wc := wX7 cI cS hh vCar vGoa vEag tN tF cN cF mP mS kCap kGap kCar kCop kGro kShr bN bF rCmd rLet rNum fCap fGap fCar fCop fGro fShr hX hC hR) (wc' := wX7 cI cS hh vCar vGoa vEag tN tF cN cF mP mS kCap kGap kCar kCop kGro kShr bN bF rCmd rLet rNum fCap fGap fCar fCop fGro fShr hX hC hR) (ws' := ((ho, .inl (cL, 1, .inr (.inl oF))) :: wX7 cI cS hh vCar vGoa vEag tN tF cN cF mP mS kCap kGap kCar kCop kGro kShr bN bF rCmd rLet rNum fCap fGap fCar fCop fGro fShr hX hC hR)) hx hb hml hown hg hK hP hD hS hA hl.1 (k_X7_lineLength l D cI cS cL Z hh p1 vCar vGoa vEag tN tF cN cF mP mS kCap kGap kCar kCop kGro kShr bN bF rCmd rLet rNum fCap fGap fCar fCop fGro fShr hX hC hR h) gm_X7_lineLength gw_832 ⟨rfl, rfl, by decide, by decide⟩ ⟨Nat.zero_le _, Nat.zero_le _⟩ pm_o pm_o fst_X7 rfl rfl rfl rfl rfl (Nat.le_of_ble_eq_true rfl) dL_lineLength_4 (fun H locs hP hD hS => ?_)
  refine lv_i2l (v := (r : Int32).toInt64) hx hb dL_lineLength_7 rfl ?_
  refine va_last hx hb hK.1 hP hD hS 0 2 rfl rfl (i := 0) (vp_in_nI (n := 0) (by decide) (by decide)) dL_lineLength_8 (fun H locs hP hD hS => ?_)
  have hP : va_P D vwCl ((ho, .inl (cL, 1, .inr (.inl (vp_updL oF 0 (r : Int32).toInt64)))) :: wX7 cI cS hh vCar vGoa vEag tN tF cN cF mP mS kCap kGap kCar kCop kGro kShr bN bF rCmd rLet rNum fCap fGap fCar fCop fGro fShr hX hC hR) H := hP
  have hD : va_D A ((ho, .inl (cL, 1, .inr (.inl (vp_updL oF 0 (r : Int32).toInt64)))) :: wX7 cI cS hh vCar vGoa vEag tN tF cN cF mP mS kCap kGap kCar kCop kGro kShr bN bF rCmd rLet rNum fCap fGap fCar fCop fGro fShr hX hC hR) := hD
  refine lv_goto (tgt := 15) hx hb dL_lineLength_9 (by decide) ?_
  refine lv_iconst (v := 0) hx hb dL_lineLength_15 (by decide) ?_
  exact ret_w hx hb hr hlocks hP hD hS (by decide) (by decide) dL_lineLength_16 rfl
set_option maxRecDepth 100000 in
set_option maxHeartbeats 4000000 in
theorem t1_L_lineLength (l : Launch) (hlt : l.stackTraces = false) (D : va_G) (cI cS cL : ClassId) (Z : Nat) (hh : Nat → Nat) (ho : Nat) (p1 : Int32) (vCar : Int32) (vGoa : Int32) (vEag : Int32) (tN : Int32) (tF : Nat → Int32) (cN : Int32) (cF : Nat → Int32) (mP : Nat → Int32) (mS : Nat → Int32) (kCap : Int32) (kGap : Int32) (kCar : Int32) (kCop : Int32) (kGro : Int32) (kShr : Int32) (bN : Int32) (bF : Nat → Int32) (rCmd : Int32) (rLet : Int32) (rNum : Int32) (fCap : Int32) (fGap : Int32) (fCar : Int32) (fCop : Int32) (fGro : Int32) (fShr : Int32) (hX : Int32) (hC : Int32) (hR : Nat → StT) (oF : Nat → Int64)  (h : f_X7_lineLength Z p1 tN tF = some (.inr "java/lang/IndexOutOfBoundsException")) : CWI l yL_lineLength cL_lineLength 4 rw_L_lineLength [(0, 9, 12, 30)] D cI cS cL [.ref (hh 0), .int p1, .ref ho] ((ho, .inl (cL, 1, .inr (.inl oF))) :: wX7 cI cS hh vCar vGoa vEag tN tF cN cF mP mS kCap kGap kCar kCop kGro kShr bN bF rCmd rLet rNum fCap fGap fCar fCop fGro fShr hX hC hR) ((ho, .inl (cL, 1, .inr (.inl oF))) :: wX7 cI cS hh vCar vGoa vEag tN tF cN cF mP mS kCap kGap kCar kCop kGro kShr bN bF rCmd rLet rNum fCap fGap fCar fCop fGro fShr hX hC hR) 1 := by
  refine ent_w (by decide +kernel) (Nat.le_of_ble_eq_true rfl) ?_
  intro p e s m args below meth c A ls hx hb hr hml hlocks hg hown hK hP hD hS hA hl htab hZ
  have hown : s.vm.findClass RL = some m.cls := hown
  have hl : lv_has ls 4 [(0, .ref (hh 0)), (1, .int p1), (2, .ref ho)] := hl
  have hP : va_P D vwCl ((ho, .inl (cL, 1, .inr (.inl oF))) :: wX7 cI cS hh vCar vGoa vEag tN tF cN cF mP mS kCap kGap kCar kCop kGro kShr bN bF rCmd rLet rNum fCap fGap fCar fCop fGro fShr hX hC hR) s.heap := hP
  have hD : va_D A ((ho, .inl (cL, 1, .inr (.inl oF))) :: wX7 cI cS hh vCar vGoa vEag tN tF cN cF mP mS kCap kGap kCar kCop kGro kShr bN bF rCmd rLet rNum fCap fGap fCar fCop fGro fShr hX hC hR) := hD
  refine lv_aload_n hx hb dL_lineLength_0 rfl (lv_at hl 2 rfl) ?_
  refine lv_iconst (v := 0) hx hb dL_lineLength_1 (by decide) ?_
  refine lv_aload_n hx hb dL_lineLength_2 rfl (lv_at hl 0 rfl) ?_
  refine lv_iload_n hx hb dL_lineLength_3 rfl (lv_at hl 1 rfl) ?_
  refine cX_i (As := [.int p1]) (rest := [.int 0, .ref ho]) (wc := wX7 cI cS hh vCar vGoa vEag tN tF cN cF mP mS kCap kGap kCar kCop kGro kShr bN bF rCmd rLet rNum fCap fGap fCar fCop fGro fShr hX hC hR) (wc' := wX7 cI cS hh vCar vGoa vEag tN tF cN cF mP mS kCap kGap kCar kCop kGro kShr bN bF rCmd rLet rNum fCap fGap fCar fCop fGro fShr hX hC hR) (ws' := ((ho, .inl (cL, 1, .inr (.inl oF))) :: wX7 cI cS hh vCar vGoa vEag tN tF cN cF mP mS kCap kGap kCar kCop kGro kShr bN bF rCmd rLet rNum fCap fGap fCar fCop fGro fShr hX hC hR)) hx hb hml hown hg hK hP hD hS hA hl.1 hZ (t_X7_lineLength l hlt D cI cS cL Z hh p1 vCar vGoa vEag tN tF cN cF mP mS kCap kGap kCar kCop kGro kShr bN bF rCmd rLet rNum fCap fGap fCar fCop fGro fShr hX hC hR h) gm_X7_lineLength gw_832 ⟨rfl, rfl, by decide, by decide⟩ ⟨by decide, by decide⟩ pm_o pm_o fst_X7 rfl rfl rfl rfl rfl (Nat.le_of_ble_eq_true rfl) dL_lineLength_4 [] (⟨0, 9, 12, 30⟩ : ExceptionTableEntry) [] htab (fun z hz => nomatch hz) (by decide) (by decide) (hg _ gw_670) (kk_nest hK nw_684) (fun q9 H locs hP hD hS => ?_)
  refine lv_astore_n (lv' := [(3, .ref q9), (0, .ref (hh 0)), (1, .int p1), (2, .ref ho)]) hx hb dL_lineLength_12 rfl hl (by decide) rfl (fun ls hl => ?_)
  refine lv_iconst (v := 1) hx hb dL_lineLength_13 (by decide) ?_
  exact ret_w hx hb hr hlocks hP hD hS (by decide) (by decide) dL_lineLength_14 rfl
abbrev rw_L_lineOf : Room := { frames := 8, cells := 1, slots := 6, locals := 122 }
set_option maxRecDepth 100000 in
set_option maxHeartbeats 4000000 in
theorem k_L_lineOf (l : Launch) (D : va_G) (cI cS cL : ClassId) (Z : Nat) (hh : Nat → Nat) (ho : Nat) (p1 : Int32) (vCar : Int32) (vGoa : Int32) (vEag : Int32) (tN : Int32) (tF : Nat → Int32) (cN : Int32) (cF : Nat → Int32) (mP : Nat → Int32) (mS : Nat → Int32) (kCap : Int32) (kGap : Int32) (kCar : Int32) (kCop : Int32) (kGro : Int32) (kShr : Int32) (bN : Int32) (bF : Nat → Int32) (rCmd : Int32) (rLet : Int32) (rNum : Int32) (fCap : Int32) (fGap : Int32) (fCar : Int32) (fCop : Int32) (fGro : Int32) (fShr : Int32) (hX : Int32) (hC : Int32) (hR : Nat → StT) (oF : Nat → Int64) {r : Int32}  (h : f_X7_lineOf Z p1 tN tF = some (.inl r)) : CWI l yL_lineOf cL_lineOf 4 rw_L_lineOf [(0, 9, 12, 30)] D cI cS cL [.ref (hh 0), .int p1, .ref ho] ((ho, .inl (cL, 1, .inr (.inl oF))) :: wX7 cI cS hh vCar vGoa vEag tN tF cN cF mP mS kCap kGap kCar kCop kGro kShr bN bF rCmd rLet rNum fCap fGap fCar fCop fGro fShr hX hC hR) ((ho, .inl (cL, 1, .inr (.inl (vp_updL oF 0 (r : Int32).toInt64)))) :: wX7 cI cS hh vCar vGoa vEag tN tF cN cF mP mS kCap kGap kCar kCop kGro kShr bN bF rCmd rLet rNum fCap fGap fCar fCop fGro fShr hX hC hR) 0 := by
  refine ent_w (by decide +kernel) (Nat.le_of_ble_eq_true rfl) ?_
  intro p e s m args below meth c A ls hx hb hr hml hlocks hg hown hK hP hD hS hA hl htab hZ
  have hown : s.vm.findClass RL = some m.cls := hown
  have hl : lv_has ls 4 [(0, .ref (hh 0)), (1, .int p1), (2, .ref ho)] := hl
  have hP : va_P D vwCl ((ho, .inl (cL, 1, .inr (.inl oF))) :: wX7 cI cS hh vCar vGoa vEag tN tF cN cF mP mS kCap kGap kCar kCop kGro kShr bN bF rCmd rLet rNum fCap fGap fCar fCop fGro fShr hX hC hR) s.heap := hP
  have hD : va_D A ((ho, .inl (cL, 1, .inr (.inl oF))) :: wX7 cI cS hh vCar vGoa vEag tN tF cN cF mP mS kCap kGap kCar kCop kGro kShr bN bF rCmd rLet rNum fCap fGap fCar fCop fGro fShr hX hC hR) := hD
  refine lv_aload_n hx hb dL_lineOf_0 rfl (lv_at hl 2 rfl) ?_
  refine lv_iconst (v := 0) hx hb dL_lineOf_1 (by decide) ?_
  refine lv_aload_n hx hb dL_lineOf_2 rfl (lv_at hl 0 rfl) ?_
  refine lv_iload_n hx hb dL_lineOf_3 rfl (lv_at hl 1 rfl) ?_
  refine cP_i (As := [.int p1]) (rest := [.int 0, .ref ho]) (wc := wX7 cI cS hh vCar vGoa vEag tN tF cN cF mP mS kCap kGap kCar kCop kGro kShr bN bF rCmd rLet rNum fCap fGap fCar fCop fGro fShr hX hC hR) (wc' := wX7 cI cS hh vCar vGoa vEag tN tF cN cF mP mS kCap kGap kCar kCop kGro kShr bN bF rCmd rLet rNum fCap fGap fCar fCop fGro fShr hX hC hR) (ws' := ((ho, .inl (cL, 1, .inr (.inl oF))) :: wX7 cI cS hh vCar vGoa vEag tN tF cN cF mP mS kCap kGap kCar kCop kGro kShr bN bF rCmd rLet rNum fCap fGap fCar fCop fGro fShr hX hC hR)) hx hb hml hown hg hK hP hD hS hA hl.1 (k_X7_lineOf l D cI cS cL Z hh p1 vCar vGoa vEag tN tF cN cF mP mS kCap kGap kCar kCop kGro kShr bN bF rCmd rLet rNum fCap fGap fCar fCop fGro fShr hX hC hR h) gm_X7_lineOf gw_801 ⟨rfl, rfl, by decide, by decide⟩ ⟨Nat.zero_le _, Nat.zero_le _⟩ pm_o pm_o fst_X7 rfl rfl rfl rfl rfl (Nat.le_of_ble_eq_true rfl) dL_lineOf_4 (fun H locs hP hD hS => ?_)
  refine lv_i2l (v := (r : Int32).toInt64) hx hb dL_lineOf_7 rfl ?_
  refine va_last hx hb hK.1 hP hD hS 0 2 rfl rfl (i := 0) (vp_in_nI (n := 0) (by decide) (by decide)) dL_lineOf_8 (fun H locs hP hD hS => ?_)
  have hP : va_P D vwCl ((ho, .inl (cL, 1, .inr (.inl (vp_updL oF 0 (r : Int32).toInt64)))) :: wX7 cI cS hh vCar vGoa vEag tN tF cN cF mP mS kCap kGap kCar kCop kGro kShr bN bF rCmd rLet rNum fCap fGap fCar fCop fGro fShr hX hC hR) H := hP
  have hD : va_D A ((ho, .inl (cL, 1, .inr (.inl (vp_updL oF 0 (r : Int32).toInt64)))) :: wX7 cI cS hh vCar vGoa vEag tN tF cN cF mP mS kCap kGap kCar kCop kGro kShr bN bF rCmd rLet rNum fCap fGap fCar fCop fGro fShr hX hC hR) := hD
  refine lv_goto (tgt := 15) hx hb dL_lineOf_9 (by decide) ?_
  refine lv_iconst (v := 0) hx hb dL_lineOf_15 (by decide) ?_
  exact ret_w hx hb hr hlocks hP hD hS (by decide) (by decide) dL_lineOf_16 rfl
set_option maxRecDepth 100000 in
set_option maxHeartbeats 4000000 in
theorem t1_L_lineOf (l : Launch) (hlt : l.stackTraces = false) (D : va_G) (cI cS cL : ClassId) (Z : Nat) (hh : Nat → Nat) (ho : Nat) (p1 : Int32) (vCar : Int32) (vGoa : Int32) (vEag : Int32) (tN : Int32) (tF : Nat → Int32) (cN : Int32) (cF : Nat → Int32) (mP : Nat → Int32) (mS : Nat → Int32) (kCap : Int32) (kGap : Int32) (kCar : Int32) (kCop : Int32) (kGro : Int32) (kShr : Int32) (bN : Int32) (bF : Nat → Int32) (rCmd : Int32) (rLet : Int32) (rNum : Int32) (fCap : Int32) (fGap : Int32) (fCar : Int32) (fCop : Int32) (fGro : Int32) (fShr : Int32) (hX : Int32) (hC : Int32) (hR : Nat → StT) (oF : Nat → Int64)  (h : f_X7_lineOf Z p1 tN tF = some (.inr "java/lang/IndexOutOfBoundsException")) : CWI l yL_lineOf cL_lineOf 4 rw_L_lineOf [(0, 9, 12, 30)] D cI cS cL [.ref (hh 0), .int p1, .ref ho] ((ho, .inl (cL, 1, .inr (.inl oF))) :: wX7 cI cS hh vCar vGoa vEag tN tF cN cF mP mS kCap kGap kCar kCop kGro kShr bN bF rCmd rLet rNum fCap fGap fCar fCop fGro fShr hX hC hR) ((ho, .inl (cL, 1, .inr (.inl oF))) :: wX7 cI cS hh vCar vGoa vEag tN tF cN cF mP mS kCap kGap kCar kCop kGro kShr bN bF rCmd rLet rNum fCap fGap fCar fCop fGro fShr hX hC hR) 1 := by
  refine ent_w (by decide +kernel) (Nat.le_of_ble_eq_true rfl) ?_
  intro p e s m args below meth c A ls hx hb hr hml hlocks hg hown hK hP hD hS hA hl htab hZ
  have hown : s.vm.findClass RL = some m.cls := hown
  have hl : lv_has ls 4 [(0, .ref (hh 0)), (1, .int p1), (2, .ref ho)] := hl
  have hP : va_P D vwCl ((ho, .inl (cL, 1, .inr (.inl oF))) :: wX7 cI cS hh vCar vGoa vEag tN tF cN cF mP mS kCap kGap kCar kCop kGro kShr bN bF rCmd rLet rNum fCap fGap fCar fCop fGro fShr hX hC hR) s.heap := hP
  have hD : va_D A ((ho, .inl (cL, 1, .inr (.inl oF))) :: wX7 cI cS hh vCar vGoa vEag tN tF cN cF mP mS kCap kGap kCar kCop kGro kShr bN bF rCmd rLet rNum fCap fGap fCar fCop fGro fShr hX hC hR) := hD
  refine lv_aload_n hx hb dL_lineOf_0 rfl (lv_at hl 2 rfl) ?_
  refine lv_iconst (v := 0) hx hb dL_lineOf_1 (by decide) ?_
  refine lv_aload_n hx hb dL_lineOf_2 rfl (lv_at hl 0 rfl) ?_
  refine lv_iload_n hx hb dL_lineOf_3 rfl (lv_at hl 1 rfl) ?_
  refine cX_i (As := [.int p1]) (rest := [.int 0, .ref ho]) (wc := wX7 cI cS hh vCar vGoa vEag tN tF cN cF mP mS kCap kGap kCar kCop kGro kShr bN bF rCmd rLet rNum fCap fGap fCar fCop fGro fShr hX hC hR) (wc' := wX7 cI cS hh vCar vGoa vEag tN tF cN cF mP mS kCap kGap kCar kCop kGro kShr bN bF rCmd rLet rNum fCap fGap fCar fCop fGro fShr hX hC hR) (ws' := ((ho, .inl (cL, 1, .inr (.inl oF))) :: wX7 cI cS hh vCar vGoa vEag tN tF cN cF mP mS kCap kGap kCar kCop kGro kShr bN bF rCmd rLet rNum fCap fGap fCar fCop fGro fShr hX hC hR)) hx hb hml hown hg hK hP hD hS hA hl.1 hZ (t_X7_lineOf l hlt D cI cS cL Z hh p1 vCar vGoa vEag tN tF cN cF mP mS kCap kGap kCar kCop kGro kShr bN bF rCmd rLet rNum fCap fGap fCar fCop fGro fShr hX hC hR h) gm_X7_lineOf gw_801 ⟨rfl, rfl, by decide, by decide⟩ ⟨by decide, by decide⟩ pm_o pm_o fst_X7 rfl rfl rfl rfl rfl (Nat.le_of_ble_eq_true rfl) dL_lineOf_4 [] (⟨0, 9, 12, 30⟩ : ExceptionTableEntry) [] htab (fun z hz => nomatch hz) (by decide) (by decide) (hg _ gw_670) (kk_nest hK nw_684) (fun q9 H locs hP hD hS => ?_)
  refine lv_astore_n (lv' := [(3, .ref q9), (0, .ref (hh 0)), (1, .int p1), (2, .ref ho)]) hx hb dL_lineOf_12 rfl hl (by decide) rfl (fun ls hl => ?_)
  refine lv_iconst (v := 1) hx hb dL_lineOf_13 (by decide) ?_
  exact ret_w hx hb hr hlocks hP hD hS (by decide) (by decide) dL_lineOf_14 rfl
abbrev rw_L_lineStart : Room := { frames := 8, cells := 1, slots := 6, locals := 122 }
set_option maxRecDepth 100000 in
set_option maxHeartbeats 4000000 in
theorem k_L_lineStart (l : Launch) (D : va_G) (cI cS cL : ClassId) (Z : Nat) (hh : Nat → Nat) (ho : Nat) (p1 : Int32) (vCar : Int32) (vGoa : Int32) (vEag : Int32) (tN : Int32) (tF : Nat → Int32) (cN : Int32) (cF : Nat → Int32) (mP : Nat → Int32) (mS : Nat → Int32) (kCap : Int32) (kGap : Int32) (kCar : Int32) (kCop : Int32) (kGro : Int32) (kShr : Int32) (bN : Int32) (bF : Nat → Int32) (rCmd : Int32) (rLet : Int32) (rNum : Int32) (fCap : Int32) (fGap : Int32) (fCar : Int32) (fCop : Int32) (fGro : Int32) (fShr : Int32) (hX : Int32) (hC : Int32) (hR : Nat → StT) (oF : Nat → Int64) {r : Int32}  (h : f_X7_lineStart Z p1 tN tF = some (.inl r)) : CWI l yL_lineStart cL_lineStart 4 rw_L_lineStart [(0, 9, 12, 30)] D cI cS cL [.ref (hh 0), .int p1, .ref ho] ((ho, .inl (cL, 1, .inr (.inl oF))) :: wX7 cI cS hh vCar vGoa vEag tN tF cN cF mP mS kCap kGap kCar kCop kGro kShr bN bF rCmd rLet rNum fCap fGap fCar fCop fGro fShr hX hC hR) ((ho, .inl (cL, 1, .inr (.inl (vp_updL oF 0 (r : Int32).toInt64)))) :: wX7 cI cS hh vCar vGoa vEag tN tF cN cF mP mS kCap kGap kCar kCop kGro kShr bN bF rCmd rLet rNum fCap fGap fCar fCop fGro fShr hX hC hR) 0 := by
  refine ent_w (by decide +kernel) (Nat.le_of_ble_eq_true rfl) ?_
  intro p e s m args below meth c A ls hx hb hr hml hlocks hg hown hK hP hD hS hA hl htab hZ
  have hown : s.vm.findClass RL = some m.cls := hown
  have hl : lv_has ls 4 [(0, .ref (hh 0)), (1, .int p1), (2, .ref ho)] := hl
  have hP : va_P D vwCl ((ho, .inl (cL, 1, .inr (.inl oF))) :: wX7 cI cS hh vCar vGoa vEag tN tF cN cF mP mS kCap kGap kCar kCop kGro kShr bN bF rCmd rLet rNum fCap fGap fCar fCop fGro fShr hX hC hR) s.heap := hP
  have hD : va_D A ((ho, .inl (cL, 1, .inr (.inl oF))) :: wX7 cI cS hh vCar vGoa vEag tN tF cN cF mP mS kCap kGap kCar kCop kGro kShr bN bF rCmd rLet rNum fCap fGap fCar fCop fGro fShr hX hC hR) := hD
  refine lv_aload_n hx hb dL_lineStart_0 rfl (lv_at hl 2 rfl) ?_
  refine lv_iconst (v := 0) hx hb dL_lineStart_1 (by decide) ?_
  refine lv_aload_n hx hb dL_lineStart_2 rfl (lv_at hl 0 rfl) ?_
  refine lv_iload_n hx hb dL_lineStart_3 rfl (lv_at hl 1 rfl) ?_
  refine cP_i (As := [.int p1]) (rest := [.int 0, .ref ho]) (wc := wX7 cI cS hh vCar vGoa vEag tN tF cN cF mP mS kCap kGap kCar kCop kGro kShr bN bF rCmd rLet rNum fCap fGap fCar fCop fGro fShr hX hC hR) (wc' := wX7 cI cS hh vCar vGoa vEag tN tF cN cF mP mS kCap kGap kCar kCop kGro kShr bN bF rCmd rLet rNum fCap fGap fCar fCop fGro fShr hX hC hR) (ws' := ((ho, .inl (cL, 1, .inr (.inl oF))) :: wX7 cI cS hh vCar vGoa vEag tN tF cN cF mP mS kCap kGap kCar kCop kGro kShr bN bF rCmd rLet rNum fCap fGap fCar fCop fGro fShr hX hC hR)) hx hb hml hown hg hK hP hD hS hA hl.1 (k_X7_lineStart l D cI cS cL Z hh p1 vCar vGoa vEag tN tF cN cF mP mS kCap kGap kCar kCop kGro kShr bN bF rCmd rLet rNum fCap fGap fCar fCop fGro fShr hX hC hR h) gm_X7_lineStart gw_816 ⟨rfl, rfl, by decide, by decide⟩ ⟨Nat.zero_le _, Nat.zero_le _⟩ pm_o pm_o fst_X7 rfl rfl rfl rfl rfl (Nat.le_of_ble_eq_true rfl) dL_lineStart_4 (fun H locs hP hD hS => ?_)
  refine lv_i2l (v := (r : Int32).toInt64) hx hb dL_lineStart_7 rfl ?_
  refine va_last hx hb hK.1 hP hD hS 0 2 rfl rfl (i := 0) (vp_in_nI (n := 0) (by decide) (by decide)) dL_lineStart_8 (fun H locs hP hD hS => ?_)
  have hP : va_P D vwCl ((ho, .inl (cL, 1, .inr (.inl (vp_updL oF 0 (r : Int32).toInt64)))) :: wX7 cI cS hh vCar vGoa vEag tN tF cN cF mP mS kCap kGap kCar kCop kGro kShr bN bF rCmd rLet rNum fCap fGap fCar fCop fGro fShr hX hC hR) H := hP
  have hD : va_D A ((ho, .inl (cL, 1, .inr (.inl (vp_updL oF 0 (r : Int32).toInt64)))) :: wX7 cI cS hh vCar vGoa vEag tN tF cN cF mP mS kCap kGap kCar kCop kGro kShr bN bF rCmd rLet rNum fCap fGap fCar fCop fGro fShr hX hC hR) := hD
  refine lv_goto (tgt := 15) hx hb dL_lineStart_9 (by decide) ?_
  refine lv_iconst (v := 0) hx hb dL_lineStart_15 (by decide) ?_
  exact ret_w hx hb hr hlocks hP hD hS (by decide) (by decide) dL_lineStart_16 rfl
set_option maxRecDepth 100000 in
set_option maxHeartbeats 4000000 in
theorem t1_L_lineStart (l : Launch) (hlt : l.stackTraces = false) (D : va_G) (cI cS cL : ClassId) (Z : Nat) (hh : Nat → Nat) (ho : Nat) (p1 : Int32) (vCar : Int32) (vGoa : Int32) (vEag : Int32) (tN : Int32) (tF : Nat → Int32) (cN : Int32) (cF : Nat → Int32) (mP : Nat → Int32) (mS : Nat → Int32) (kCap : Int32) (kGap : Int32) (kCar : Int32) (kCop : Int32) (kGro : Int32) (kShr : Int32) (bN : Int32) (bF : Nat → Int32) (rCmd : Int32) (rLet : Int32) (rNum : Int32) (fCap : Int32) (fGap : Int32) (fCar : Int32) (fCop : Int32) (fGro : Int32) (fShr : Int32) (hX : Int32) (hC : Int32) (hR : Nat → StT) (oF : Nat → Int64)  (h : f_X7_lineStart Z p1 tN tF = some (.inr "java/lang/IndexOutOfBoundsException")) : CWI l yL_lineStart cL_lineStart 4 rw_L_lineStart [(0, 9, 12, 30)] D cI cS cL [.ref (hh 0), .int p1, .ref ho] ((ho, .inl (cL, 1, .inr (.inl oF))) :: wX7 cI cS hh vCar vGoa vEag tN tF cN cF mP mS kCap kGap kCar kCop kGro kShr bN bF rCmd rLet rNum fCap fGap fCar fCop fGro fShr hX hC hR) ((ho, .inl (cL, 1, .inr (.inl oF))) :: wX7 cI cS hh vCar vGoa vEag tN tF cN cF mP mS kCap kGap kCar kCop kGro kShr bN bF rCmd rLet rNum fCap fGap fCar fCop fGro fShr hX hC hR) 1 := by
  refine ent_w (by decide +kernel) (Nat.le_of_ble_eq_true rfl) ?_
  intro p e s m args below meth c A ls hx hb hr hml hlocks hg hown hK hP hD hS hA hl htab hZ
  have hown : s.vm.findClass RL = some m.cls := hown
  have hl : lv_has ls 4 [(0, .ref (hh 0)), (1, .int p1), (2, .ref ho)] := hl
  have hP : va_P D vwCl ((ho, .inl (cL, 1, .inr (.inl oF))) :: wX7 cI cS hh vCar vGoa vEag tN tF cN cF mP mS kCap kGap kCar kCop kGro kShr bN bF rCmd rLet rNum fCap fGap fCar fCop fGro fShr hX hC hR) s.heap := hP
  have hD : va_D A ((ho, .inl (cL, 1, .inr (.inl oF))) :: wX7 cI cS hh vCar vGoa vEag tN tF cN cF mP mS kCap kGap kCar kCop kGro kShr bN bF rCmd rLet rNum fCap fGap fCar fCop fGro fShr hX hC hR) := hD
  refine lv_aload_n hx hb dL_lineStart_0 rfl (lv_at hl 2 rfl) ?_
  refine lv_iconst (v := 0) hx hb dL_lineStart_1 (by decide) ?_
  refine lv_aload_n hx hb dL_lineStart_2 rfl (lv_at hl 0 rfl) ?_
  refine lv_iload_n hx hb dL_lineStart_3 rfl (lv_at hl 1 rfl) ?_
  refine cX_i (As := [.int p1]) (rest := [.int 0, .ref ho]) (wc := wX7 cI cS hh vCar vGoa vEag tN tF cN cF mP mS kCap kGap kCar kCop kGro kShr bN bF rCmd rLet rNum fCap fGap fCar fCop fGro fShr hX hC hR) (wc' := wX7 cI cS hh vCar vGoa vEag tN tF cN cF mP mS kCap kGap kCar kCop kGro kShr bN bF rCmd rLet rNum fCap fGap fCar fCop fGro fShr hX hC hR) (ws' := ((ho, .inl (cL, 1, .inr (.inl oF))) :: wX7 cI cS hh vCar vGoa vEag tN tF cN cF mP mS kCap kGap kCar kCop kGro kShr bN bF rCmd rLet rNum fCap fGap fCar fCop fGro fShr hX hC hR)) hx hb hml hown hg hK hP hD hS hA hl.1 hZ (t_X7_lineStart l hlt D cI cS cL Z hh p1 vCar vGoa vEag tN tF cN cF mP mS kCap kGap kCar kCop kGro kShr bN bF rCmd rLet rNum fCap fGap fCar fCop fGro fShr hX hC hR h) gm_X7_lineStart gw_816 ⟨rfl, rfl, by decide, by decide⟩ ⟨by decide, by decide⟩ pm_o pm_o fst_X7 rfl rfl rfl rfl rfl (Nat.le_of_ble_eq_true rfl) dL_lineStart_4 [] (⟨0, 9, 12, 30⟩ : ExceptionTableEntry) [] htab (fun z hz => nomatch hz) (by decide) (by decide) (hg _ gw_670) (kk_nest hK nw_684) (fun q9 H locs hP hD hS => ?_)
  refine lv_astore_n (lv' := [(3, .ref q9), (0, .ref (hh 0)), (1, .int p1), (2, .ref ho)]) hx hb dL_lineStart_12 rfl hl (by decide) rfl (fun ls hl => ?_)
  refine lv_iconst (v := 1) hx hb dL_lineStart_13 (by decide) ?_
  exact ret_w hx hb hr hlocks hP hD hS (by decide) (by decide) dL_lineStart_14 rfl
abbrev rw_L_mark : Room := { frames := 8, cells := 1, slots := 6, locals := 122 }
set_option maxRecDepth 100000 in
set_option maxHeartbeats 4000000 in
theorem k_L_mark (l : Launch) (D : va_G) (cI cS cL : ClassId) (Z : Nat) (hh : Nat → Nat) (ho : Nat) (p1 : Int32) (vCar : Int32) (vGoa : Int32) (vEag : Int32) (tN : Int32) (tF : Nat → Int32) (cN : Int32) (cF : Nat → Int32) (mP : Nat → Int32) (mS : Nat → Int32) (kCap : Int32) (kGap : Int32) (kCar : Int32) (kCop : Int32) (kGro : Int32) (kShr : Int32) (bN : Int32) (bF : Nat → Int32) (rCmd : Int32) (rLet : Int32) (rNum : Int32) (fCap : Int32) (fGap : Int32) (fCar : Int32) (fCop : Int32) (fGro : Int32) (fShr : Int32) (hX : Int32) (hC : Int32) (hR : Nat → StT) (oF : Nat → Int64) {r : Int32}  (h : f_X7_mark Z p1 mP = some (.inl r)) : CWI l yL_mark cL_mark 4 rw_L_mark [(0, 9, 12, 30)] D cI cS cL [.ref (hh 0), .int p1, .ref ho] ((ho, .inl (cL, 1, .inr (.inl oF))) :: wX7 cI cS hh vCar vGoa vEag tN tF cN cF mP mS kCap kGap kCar kCop kGro kShr bN bF rCmd rLet rNum fCap fGap fCar fCop fGro fShr hX hC hR) ((ho, .inl (cL, 1, .inr (.inl (vp_updL oF 0 (r : Int32).toInt64)))) :: wX7 cI cS hh vCar vGoa vEag tN tF cN cF mP mS kCap kGap kCar kCop kGro kShr bN bF rCmd rLet rNum fCap fGap fCar fCop fGro fShr hX hC hR) 0 := by
  refine ent_w (by decide +kernel) (Nat.le_of_ble_eq_true rfl) ?_
  intro p e s m args below meth c A ls hx hb hr hml hlocks hg hown hK hP hD hS hA hl htab hZ
  have hown : s.vm.findClass RL = some m.cls := hown
  have hl : lv_has ls 4 [(0, .ref (hh 0)), (1, .int p1), (2, .ref ho)] := hl
  have hP : va_P D vwCl ((ho, .inl (cL, 1, .inr (.inl oF))) :: wX7 cI cS hh vCar vGoa vEag tN tF cN cF mP mS kCap kGap kCar kCop kGro kShr bN bF rCmd rLet rNum fCap fGap fCar fCop fGro fShr hX hC hR) s.heap := hP
  have hD : va_D A ((ho, .inl (cL, 1, .inr (.inl oF))) :: wX7 cI cS hh vCar vGoa vEag tN tF cN cF mP mS kCap kGap kCar kCop kGro kShr bN bF rCmd rLet rNum fCap fGap fCar fCop fGro fShr hX hC hR) := hD
  refine lv_aload_n hx hb dL_mark_0 rfl (lv_at hl 2 rfl) ?_
  refine lv_iconst (v := 0) hx hb dL_mark_1 (by decide) ?_
  refine lv_aload_n hx hb dL_mark_2 rfl (lv_at hl 0 rfl) ?_
  refine lv_iload_n hx hb dL_mark_3 rfl (lv_at hl 1 rfl) ?_
  refine cP_i (As := [.int p1]) (rest := [.int 0, .ref ho]) (wc := wX7 cI cS hh vCar vGoa vEag tN tF cN cF mP mS kCap kGap kCar kCop kGro kShr bN bF rCmd rLet rNum fCap fGap fCar fCop fGro fShr hX hC hR) (wc' := wX7 cI cS hh vCar vGoa vEag tN tF cN cF mP mS kCap kGap kCar kCop kGro kShr bN bF rCmd rLet rNum fCap fGap fCar fCop fGro fShr hX hC hR) (ws' := ((ho, .inl (cL, 1, .inr (.inl oF))) :: wX7 cI cS hh vCar vGoa vEag tN tF cN cF mP mS kCap kGap kCar kCop kGro kShr bN bF rCmd rLet rNum fCap fGap fCar fCop fGro fShr hX hC hR)) hx hb hml hown hg hK hP hD hS hA hl.1 (k_X7_mark l D cI cS cL Z hh p1 vCar vGoa vEag tN tF cN cF mP mS kCap kGap kCar kCop kGro kShr bN bF rCmd rLet rNum fCap fGap fCar fCop fGro fShr hX hC hR h) gm_X7_mark gw_764 ⟨rfl, rfl, by decide, by decide⟩ ⟨Nat.zero_le _, Nat.zero_le _⟩ pm_o pm_o fst_X7 rfl rfl rfl rfl rfl (Nat.le_of_ble_eq_true rfl) dL_mark_4 (fun H locs hP hD hS => ?_)
  refine lv_i2l (v := (r : Int32).toInt64) hx hb dL_mark_7 rfl ?_
  refine va_last hx hb hK.1 hP hD hS 0 2 rfl rfl (i := 0) (vp_in_nI (n := 0) (by decide) (by decide)) dL_mark_8 (fun H locs hP hD hS => ?_)
  have hP : va_P D vwCl ((ho, .inl (cL, 1, .inr (.inl (vp_updL oF 0 (r : Int32).toInt64)))) :: wX7 cI cS hh vCar vGoa vEag tN tF cN cF mP mS kCap kGap kCar kCop kGro kShr bN bF rCmd rLet rNum fCap fGap fCar fCop fGro fShr hX hC hR) H := hP
  have hD : va_D A ((ho, .inl (cL, 1, .inr (.inl (vp_updL oF 0 (r : Int32).toInt64)))) :: wX7 cI cS hh vCar vGoa vEag tN tF cN cF mP mS kCap kGap kCar kCop kGro kShr bN bF rCmd rLet rNum fCap fGap fCar fCop fGro fShr hX hC hR) := hD
  refine lv_goto (tgt := 15) hx hb dL_mark_9 (by decide) ?_
  refine lv_iconst (v := 0) hx hb dL_mark_15 (by decide) ?_
  exact ret_w hx hb hr hlocks hP hD hS (by decide) (by decide) dL_mark_16 rfl
set_option maxRecDepth 100000 in
set_option maxHeartbeats 4000000 in
theorem t1_L_mark (l : Launch) (hlt : l.stackTraces = false) (D : va_G) (cI cS cL : ClassId) (Z : Nat) (hh : Nat → Nat) (ho : Nat) (p1 : Int32) (vCar : Int32) (vGoa : Int32) (vEag : Int32) (tN : Int32) (tF : Nat → Int32) (cN : Int32) (cF : Nat → Int32) (mP : Nat → Int32) (mS : Nat → Int32) (kCap : Int32) (kGap : Int32) (kCar : Int32) (kCop : Int32) (kGro : Int32) (kShr : Int32) (bN : Int32) (bF : Nat → Int32) (rCmd : Int32) (rLet : Int32) (rNum : Int32) (fCap : Int32) (fGap : Int32) (fCar : Int32) (fCop : Int32) (fGro : Int32) (fShr : Int32) (hX : Int32) (hC : Int32) (hR : Nat → StT) (oF : Nat → Int64)  (h : f_X7_mark Z p1 mP = some (.inr "java/lang/IndexOutOfBoundsException")) : CWI l yL_mark cL_mark 4 rw_L_mark [(0, 9, 12, 30)] D cI cS cL [.ref (hh 0), .int p1, .ref ho] ((ho, .inl (cL, 1, .inr (.inl oF))) :: wX7 cI cS hh vCar vGoa vEag tN tF cN cF mP mS kCap kGap kCar kCop kGro kShr bN bF rCmd rLet rNum fCap fGap fCar fCop fGro fShr hX hC hR) ((ho, .inl (cL, 1, .inr (.inl oF))) :: wX7 cI cS hh vCar vGoa vEag tN tF cN cF mP mS kCap kGap kCar kCop kGro kShr bN bF rCmd rLet rNum fCap fGap fCar fCop fGro fShr hX hC hR) 1 := by
  refine ent_w (by decide +kernel) (Nat.le_of_ble_eq_true rfl) ?_
  intro p e s m args below meth c A ls hx hb hr hml hlocks hg hown hK hP hD hS hA hl htab hZ
  have hown : s.vm.findClass RL = some m.cls := hown
  have hl : lv_has ls 4 [(0, .ref (hh 0)), (1, .int p1), (2, .ref ho)] := hl
  have hP : va_P D vwCl ((ho, .inl (cL, 1, .inr (.inl oF))) :: wX7 cI cS hh vCar vGoa vEag tN tF cN cF mP mS kCap kGap kCar kCop kGro kShr bN bF rCmd rLet rNum fCap fGap fCar fCop fGro fShr hX hC hR) s.heap := hP
  have hD : va_D A ((ho, .inl (cL, 1, .inr (.inl oF))) :: wX7 cI cS hh vCar vGoa vEag tN tF cN cF mP mS kCap kGap kCar kCop kGro kShr bN bF rCmd rLet rNum fCap fGap fCar fCop fGro fShr hX hC hR) := hD
  refine lv_aload_n hx hb dL_mark_0 rfl (lv_at hl 2 rfl) ?_
  refine lv_iconst (v := 0) hx hb dL_mark_1 (by decide) ?_
  refine lv_aload_n hx hb dL_mark_2 rfl (lv_at hl 0 rfl) ?_
  refine lv_iload_n hx hb dL_mark_3 rfl (lv_at hl 1 rfl) ?_
  refine cX_i (As := [.int p1]) (rest := [.int 0, .ref ho]) (wc := wX7 cI cS hh vCar vGoa vEag tN tF cN cF mP mS kCap kGap kCar kCop kGro kShr bN bF rCmd rLet rNum fCap fGap fCar fCop fGro fShr hX hC hR) (wc' := wX7 cI cS hh vCar vGoa vEag tN tF cN cF mP mS kCap kGap kCar kCop kGro kShr bN bF rCmd rLet rNum fCap fGap fCar fCop fGro fShr hX hC hR) (ws' := ((ho, .inl (cL, 1, .inr (.inl oF))) :: wX7 cI cS hh vCar vGoa vEag tN tF cN cF mP mS kCap kGap kCar kCop kGro kShr bN bF rCmd rLet rNum fCap fGap fCar fCop fGro fShr hX hC hR)) hx hb hml hown hg hK hP hD hS hA hl.1 hZ (t_X7_mark l hlt D cI cS cL Z hh p1 vCar vGoa vEag tN tF cN cF mP mS kCap kGap kCar kCop kGro kShr bN bF rCmd rLet rNum fCap fGap fCar fCop fGro fShr hX hC hR h) gm_X7_mark gw_764 ⟨rfl, rfl, by decide, by decide⟩ ⟨by decide, by decide⟩ pm_o pm_o fst_X7 rfl rfl rfl rfl rfl (Nat.le_of_ble_eq_true rfl) dL_mark_4 [] (⟨0, 9, 12, 30⟩ : ExceptionTableEntry) [] htab (fun z hz => nomatch hz) (by decide) (by decide) (hg _ gw_670) (kk_nest hK nw_684) (fun q9 H locs hP hD hS => ?_)
  refine lv_astore_n (lv' := [(3, .ref q9), (0, .ref (hh 0)), (1, .int p1), (2, .ref ho)]) hx hb dL_mark_12 rfl hl (by decide) rfl (fun ls hl => ?_)
  refine lv_iconst (v := 1) hx hb dL_mark_13 (by decide) ?_
  exact ret_w hx hb hr hlocks hP hD hS (by decide) (by decide) dL_mark_14 rfl
abbrev rw_L_moveBy : Room := { frames := 8, cells := 1, slots := 6, locals := 128 }
set_option maxRecDepth 100000 in
set_option maxHeartbeats 4000000 in
theorem k_L_moveBy (l : Launch) (D : va_G) (cI cS cL : ClassId) (Z : Nat) (hh : Nat → Nat) (ho : Nat) (p1 : Int32) (vCar : Int32) (vGoa : Int32) (vEag : Int32) (tN : Int32) (tF : Nat → Int32) (cN : Int32) (cF : Nat → Int32) (mP : Nat → Int32) (mS : Nat → Int32) (kCap : Int32) (kGap : Int32) (kCar : Int32) (kCop : Int32) (kGro : Int32) (kShr : Int32) (bN : Int32) (bF : Nat → Int32) (rCmd : Int32) (rLet : Int32) (rNum : Int32) (fCap : Int32) (fGap : Int32) (fCar : Int32) (fCop : Int32) (fGro : Int32) (fShr : Int32) (hX : Int32) (hC : Int32) (hR : Nat → StT) (oF : Nat → Int64) {r : Int32} {vCar' : Int32} {vGoa' : Int32} {kGap' : Int32} {kCar' : Int32} {hX' : Int32} {hC' : Int32} {hR' : Nat → StT} (h : f_X7_moveBy Z p1 vCar vGoa vEag tN tF cN cF mP mS kCap kGap kCar kCop kGro kShr hX hC hR = some (.inl (r, vCar', vGoa', kGap', kCar', hX', hC', hR'))) : CWI l yL_moveBy cL_moveBy 4 rw_L_moveBy [(0, 9, 12, 13)] D cI cS cL [.ref (hh 0), .int p1, .ref ho] ((ho, .inl (cL, 1, .inr (.inl oF))) :: wX7 cI cS hh vCar vGoa vEag tN tF cN cF mP mS kCap kGap kCar kCop kGro kShr bN bF rCmd rLet rNum fCap fGap fCar fCop fGro fShr hX hC hR) ((ho, .inl (cL, 1, .inr (.inl (vp_updL oF 0 (r : Int32).toInt64)))) :: wX7 cI cS hh vCar' vGoa' vEag tN tF cN cF mP mS kCap kGap' kCar' kCop kGro kShr bN bF rCmd rLet rNum fCap fGap fCar fCop fGro fShr hX' hC' hR') 0 := by
  refine ent_w (by decide +kernel) (Nat.le_of_ble_eq_true rfl) ?_
  intro p e s m args below meth c A ls hx hb hr hml hlocks hg hown hK hP hD hS hA hl htab hZ
  have hown : s.vm.findClass RL = some m.cls := hown
  have hl : lv_has ls 4 [(0, .ref (hh 0)), (1, .int p1), (2, .ref ho)] := hl
  have hP : va_P D vwCl ((ho, .inl (cL, 1, .inr (.inl oF))) :: wX7 cI cS hh vCar vGoa vEag tN tF cN cF mP mS kCap kGap kCar kCop kGro kShr bN bF rCmd rLet rNum fCap fGap fCar fCop fGro fShr hX hC hR) s.heap := hP
  have hD : va_D A ((ho, .inl (cL, 1, .inr (.inl oF))) :: wX7 cI cS hh vCar vGoa vEag tN tF cN cF mP mS kCap kGap kCar kCop kGro kShr bN bF rCmd rLet rNum fCap fGap fCar fCop fGro fShr hX hC hR) := hD
  refine lv_aload_n hx hb dL_moveBy_0 rfl (lv_at hl 2 rfl) ?_
  refine lv_iconst (v := 0) hx hb dL_moveBy_1 (by decide) ?_
  refine lv_aload_n hx hb dL_moveBy_2 rfl (lv_at hl 0 rfl) ?_
  refine lv_iload_n hx hb dL_moveBy_3 rfl (lv_at hl 1 rfl) ?_
  refine cP_i (As := [.int p1]) (rest := [.int 0, .ref ho]) (wc := wX7 cI cS hh vCar vGoa vEag tN tF cN cF mP mS kCap kGap kCar kCop kGro kShr bN bF rCmd rLet rNum fCap fGap fCar fCop fGro fShr hX hC hR) (wc' := wX7 cI cS hh vCar' vGoa' vEag tN tF cN cF mP mS kCap kGap' kCar' kCop kGro kShr bN bF rCmd rLet rNum fCap fGap fCar fCop fGro fShr hX' hC' hR') (ws' := ((ho, .inl (cL, 1, .inr (.inl oF))) :: wX7 cI cS hh vCar' vGoa' vEag tN tF cN cF mP mS kCap kGap' kCar' kCop kGro kShr bN bF rCmd rLet rNum fCap fGap fCar fCop fGro fShr hX' hC' hR')) hx hb hml hown hg hK hP hD hS hA hl.1 (k_X7_moveBy l D cI cS cL Z hh p1 vCar vGoa vEag tN tF cN cF mP mS kCap kGap kCar kCop kGro kShr bN bF rCmd rLet rNum fCap fGap fCar fCop fGro fShr hX hC hR h) gm_X7_moveBy gw_700 ⟨rfl, rfl, by decide, by decide⟩ ⟨Nat.zero_le _, Nat.zero_le _⟩ pm_o pm_o fst_X7 rfl rfl rfl rfl rfl (Nat.le_of_ble_eq_true rfl) dL_moveBy_4 (fun H locs hP hD hS => ?_)
  refine lv_i2l (v := (r : Int32).toInt64) hx hb dL_moveBy_7 rfl ?_
  refine va_last hx hb hK.1 hP hD hS 0 2 rfl rfl (i := 0) (vp_in_nI (n := 0) (by decide) (by decide)) dL_moveBy_8 (fun H locs hP hD hS => ?_)
  have hP : va_P D vwCl ((ho, .inl (cL, 1, .inr (.inl (vp_updL oF 0 (r : Int32).toInt64)))) :: wX7 cI cS hh vCar' vGoa' vEag tN tF cN cF mP mS kCap kGap' kCar' kCop kGro kShr bN bF rCmd rLet rNum fCap fGap fCar fCop fGro fShr hX' hC' hR') H := hP
  have hD : va_D A ((ho, .inl (cL, 1, .inr (.inl (vp_updL oF 0 (r : Int32).toInt64)))) :: wX7 cI cS hh vCar' vGoa' vEag tN tF cN cF mP mS kCap kGap' kCar' kCop kGro kShr bN bF rCmd rLet rNum fCap fGap fCar fCop fGro fShr hX' hC' hR') := hD
  refine lv_goto (tgt := 15) hx hb dL_moveBy_9 (by decide) ?_
  refine lv_iconst (v := 0) hx hb dL_moveBy_15 (by decide) ?_
  exact ret_w hx hb hr hlocks hP hD hS (by decide) (by decide) dL_moveBy_16 rfl
set_option maxRecDepth 100000 in
set_option maxHeartbeats 4000000 in
theorem t1_L_moveBy (l : Launch) (hlt : l.stackTraces = false) (D : va_G) (cI cS cL : ClassId) (Z : Nat) (hh : Nat → Nat) (ho : Nat) (p1 : Int32) (vCar : Int32) (vGoa : Int32) (vEag : Int32) (tN : Int32) (tF : Nat → Int32) (cN : Int32) (cF : Nat → Int32) (mP : Nat → Int32) (mS : Nat → Int32) (kCap : Int32) (kGap : Int32) (kCar : Int32) (kCop : Int32) (kGro : Int32) (kShr : Int32) (bN : Int32) (bF : Nat → Int32) (rCmd : Int32) (rLet : Int32) (rNum : Int32) (fCap : Int32) (fGap : Int32) (fCar : Int32) (fCop : Int32) (fGro : Int32) (fShr : Int32) (hX : Int32) (hC : Int32) (hR : Nat → StT) (oF : Nat → Int64)  (h : f_X7_moveBy Z p1 vCar vGoa vEag tN tF cN cF mP mS kCap kGap kCar kCop kGro kShr hX hC hR = some (.inr "java/lang/IllegalArgumentException")) : CWI l yL_moveBy cL_moveBy 4 rw_L_moveBy [(0, 9, 12, 13)] D cI cS cL [.ref (hh 0), .int p1, .ref ho] ((ho, .inl (cL, 1, .inr (.inl oF))) :: wX7 cI cS hh vCar vGoa vEag tN tF cN cF mP mS kCap kGap kCar kCop kGro kShr bN bF rCmd rLet rNum fCap fGap fCar fCop fGro fShr hX hC hR) ((ho, .inl (cL, 1, .inr (.inl oF))) :: wX7 cI cS hh vCar vGoa vEag tN tF cN cF mP mS kCap kGap kCar kCop kGro kShr bN bF rCmd rLet rNum fCap fGap fCar fCop fGro fShr hX hC hR) 1 := by
  refine ent_w (by decide +kernel) (Nat.le_of_ble_eq_true rfl) ?_
  intro p e s m args below meth c A ls hx hb hr hml hlocks hg hown hK hP hD hS hA hl htab hZ
  have hown : s.vm.findClass RL = some m.cls := hown
  have hl : lv_has ls 4 [(0, .ref (hh 0)), (1, .int p1), (2, .ref ho)] := hl
  have hP : va_P D vwCl ((ho, .inl (cL, 1, .inr (.inl oF))) :: wX7 cI cS hh vCar vGoa vEag tN tF cN cF mP mS kCap kGap kCar kCop kGro kShr bN bF rCmd rLet rNum fCap fGap fCar fCop fGro fShr hX hC hR) s.heap := hP
  have hD : va_D A ((ho, .inl (cL, 1, .inr (.inl oF))) :: wX7 cI cS hh vCar vGoa vEag tN tF cN cF mP mS kCap kGap kCar kCop kGro kShr bN bF rCmd rLet rNum fCap fGap fCar fCop fGro fShr hX hC hR) := hD
  refine lv_aload_n hx hb dL_moveBy_0 rfl (lv_at hl 2 rfl) ?_
  refine lv_iconst (v := 0) hx hb dL_moveBy_1 (by decide) ?_
  refine lv_aload_n hx hb dL_moveBy_2 rfl (lv_at hl 0 rfl) ?_
  refine lv_iload_n hx hb dL_moveBy_3 rfl (lv_at hl 1 rfl) ?_
  refine cX_i (As := [.int p1]) (rest := [.int 0, .ref ho]) (wc := wX7 cI cS hh vCar vGoa vEag tN tF cN cF mP mS kCap kGap kCar kCop kGro kShr bN bF rCmd rLet rNum fCap fGap fCar fCop fGro fShr hX hC hR) (wc' := wX7 cI cS hh vCar vGoa vEag tN tF cN cF mP mS kCap kGap kCar kCop kGro kShr bN bF rCmd rLet rNum fCap fGap fCar fCop fGro fShr hX hC hR) (ws' := ((ho, .inl (cL, 1, .inr (.inl oF))) :: wX7 cI cS hh vCar vGoa vEag tN tF cN cF mP mS kCap kGap kCar kCop kGro kShr bN bF rCmd rLet rNum fCap fGap fCar fCop fGro fShr hX hC hR)) hx hb hml hown hg hK hP hD hS hA hl.1 hZ (t_X7_moveBy l hlt D cI cS cL Z hh p1 vCar vGoa vEag tN tF cN cF mP mS kCap kGap kCar kCop kGro kShr bN bF rCmd rLet rNum fCap fGap fCar fCop fGro fShr hX hC hR h) gm_X7_moveBy gw_700 ⟨rfl, rfl, by decide, by decide⟩ ⟨by decide, by decide⟩ pm_o pm_o fst_X7 rfl rfl rfl rfl rfl (Nat.le_of_ble_eq_true rfl) dL_moveBy_4 [] (⟨0, 9, 12, 13⟩ : ExceptionTableEntry) [] htab (fun z hz => nomatch hz) (by decide) (by decide) (hg _ gw_492) (kk_nest hK nw_506) (fun q9 H locs hP hD hS => ?_)
  refine lv_astore_n (lv' := [(3, .ref q9), (0, .ref (hh 0)), (1, .int p1), (2, .ref ho)]) hx hb dL_moveBy_12 rfl hl (by decide) rfl (fun ls hl => ?_)
  refine lv_iconst (v := 1) hx hb dL_moveBy_13 (by decide) ?_
  exact ret_w hx hb hr hlocks hP hD hS (by decide) (by decide) dL_moveBy_14 rfl
abbrev rw_L_moveTo : Room := { frames := 8, cells := 1, slots := 6, locals := 128 }
set_option maxRecDepth 100000 in
set_option maxHeartbeats 4000000 in
theorem k_L_moveTo (l : Launch) (D : va_G) (cI cS cL : ClassId) (Z : Nat) (hh : Nat → Nat) (ho : Nat) (p1 : Int32) (vCar : Int32) (vGoa : Int32) (vEag : Int32) (tN : Int32) (tF : Nat → Int32) (cN : Int32) (cF : Nat → Int32) (mP : Nat → Int32) (mS : Nat → Int32) (kCap : Int32) (kGap : Int32) (kCar : Int32) (kCop : Int32) (kGro : Int32) (kShr : Int32) (bN : Int32) (bF : Nat → Int32) (rCmd : Int32) (rLet : Int32) (rNum : Int32) (fCap : Int32) (fGap : Int32) (fCar : Int32) (fCop : Int32) (fGro : Int32) (fShr : Int32) (hX : Int32) (hC : Int32) (hR : Nat → StT) (oF : Nat → Int64) {r : Int32} {vCar' : Int32} {vGoa' : Int32} {kGap' : Int32} {kCar' : Int32} {hX' : Int32} {hC' : Int32} {hR' : Nat → StT} (h : f_X7_moveTo Z p1 vCar vGoa vEag tN tF cN cF mP mS kCap kGap kCar kCop kGro kShr hX hC hR = some (.inl (r, vCar', vGoa', kGap', kCar', hX', hC', hR'))) : CWI l yL_moveTo cL_moveTo 4 rw_L_moveTo [(0, 9, 12, 30)] D cI cS cL [.ref (hh 0), .int p1, .ref ho] ((ho, .inl (cL, 1, .inr (.inl oF))) :: wX7 cI cS hh vCar vGoa vEag tN tF cN cF mP mS kCap kGap kCar kCop kGro kShr bN bF rCmd rLet rNum fCap fGap fCar fCop fGro fShr hX hC hR) ((ho, .inl (cL, 1, .inr (.inl (vp_updL oF 0 (r : Int32).toInt64)))) :: wX7 cI cS hh vCar' vGoa' vEag tN tF cN cF mP mS kCap kGap' kCar' kCop kGro kShr bN bF rCmd rLet rNum fCap fGap fCar fCop fGro fShr hX' hC' hR') 0 := by
  refine ent_w (by decide +kernel) (Nat.le_of_ble_eq_true rfl) ?_
  intro p e s m args below meth c A ls hx hb hr hml hlocks hg hown hK hP hD hS hA hl htab hZ
  have hown : s.vm.findClass RL = some m.cls := hown
  have hl : lv_has ls 4 [(0, .ref (hh 0)), (1, .int p1), (2, .ref ho)] := hl
  have hP : va_P D vwCl ((ho, .inl (cL, 1, .inr (.inl oF))) :: wX7 cI cS hh vCar vGoa vEag tN tF cN cF mP mS kCap kGap kCar kCop kGro kShr bN bF rCmd rLet rNum fCap fGap fCar fCop fGro fShr hX hC hR) s.heap := hP
  have hD : va_D A ((ho, .inl (cL, 1, .inr (.inl oF))) :: wX7 cI cS hh vCar vGoa vEag tN tF cN cF mP mS kCap kGap kCar kCop kGro kShr bN bF rCmd rLet rNum fCap fGap fCar fCop fGro fShr hX hC hR) := hD
  refine lv_aload_n hx hb dL_moveTo_0 rfl (lv_at hl 2 rfl) ?_
  refine lv_iconst (v := 0) hx hb dL_moveTo_1 (by decide) ?_
  refine lv_aload_n hx hb dL_moveTo_2 rfl (lv_at hl 0 rfl) ?_
  refine lv_iload_n hx hb dL_moveTo_3 rfl (lv_at hl 1 rfl) ?_
  refine cP_i (As := [.int p1]) (rest := [.int 0, .ref ho]) (wc := wX7 cI cS hh vCar vGoa vEag tN tF cN cF mP mS kCap kGap kCar kCop kGro kShr bN bF rCmd rLet rNum fCap fGap fCar fCop fGro fShr hX hC hR) (wc' := wX7 cI cS hh vCar' vGoa' vEag tN tF cN cF mP mS kCap kGap' kCar' kCop kGro kShr bN bF rCmd rLet rNum fCap fGap fCar fCop fGro fShr hX' hC' hR') (ws' := ((ho, .inl (cL, 1, .inr (.inl oF))) :: wX7 cI cS hh vCar' vGoa' vEag tN tF cN cF mP mS kCap kGap' kCar' kCop kGro kShr bN bF rCmd rLet rNum fCap fGap fCar fCop fGro fShr hX' hC' hR')) hx hb hml hown hg hK hP hD hS hA hl.1 (k_X7_moveTo l D cI cS cL Z hh p1 vCar vGoa vEag tN tF cN cF mP mS kCap kGap kCar kCop kGro kShr bN bF rCmd rLet rNum fCap fGap fCar fCop fGro fShr hX hC hR h) gm_X7_moveTo gw_671 ⟨rfl, rfl, by decide, by decide⟩ ⟨Nat.zero_le _, Nat.zero_le _⟩ pm_o pm_o fst_X7 rfl rfl rfl rfl rfl (Nat.le_of_ble_eq_true rfl) dL_moveTo_4 (fun H locs hP hD hS => ?_)
  refine lv_i2l (v := (r : Int32).toInt64) hx hb dL_moveTo_7 rfl ?_
  refine va_last hx hb hK.1 hP hD hS 0 2 rfl rfl (i := 0) (vp_in_nI (n := 0) (by decide) (by decide)) dL_moveTo_8 (fun H locs hP hD hS => ?_)
  have hP : va_P D vwCl ((ho, .inl (cL, 1, .inr (.inl (vp_updL oF 0 (r : Int32).toInt64)))) :: wX7 cI cS hh vCar' vGoa' vEag tN tF cN cF mP mS kCap kGap' kCar' kCop kGro kShr bN bF rCmd rLet rNum fCap fGap fCar fCop fGro fShr hX' hC' hR') H := hP
  have hD : va_D A ((ho, .inl (cL, 1, .inr (.inl (vp_updL oF 0 (r : Int32).toInt64)))) :: wX7 cI cS hh vCar' vGoa' vEag tN tF cN cF mP mS kCap kGap' kCar' kCop kGro kShr bN bF rCmd rLet rNum fCap fGap fCar fCop fGro fShr hX' hC' hR') := hD
  refine lv_goto (tgt := 15) hx hb dL_moveTo_9 (by decide) ?_
  refine lv_iconst (v := 0) hx hb dL_moveTo_15 (by decide) ?_
  exact ret_w hx hb hr hlocks hP hD hS (by decide) (by decide) dL_moveTo_16 rfl
set_option maxRecDepth 100000 in
set_option maxHeartbeats 4000000 in
theorem t1_L_moveTo (l : Launch) (hlt : l.stackTraces = false) (D : va_G) (cI cS cL : ClassId) (Z : Nat) (hh : Nat → Nat) (ho : Nat) (p1 : Int32) (vCar : Int32) (vGoa : Int32) (vEag : Int32) (tN : Int32) (tF : Nat → Int32) (cN : Int32) (cF : Nat → Int32) (mP : Nat → Int32) (mS : Nat → Int32) (kCap : Int32) (kGap : Int32) (kCar : Int32) (kCop : Int32) (kGro : Int32) (kShr : Int32) (bN : Int32) (bF : Nat → Int32) (rCmd : Int32) (rLet : Int32) (rNum : Int32) (fCap : Int32) (fGap : Int32) (fCar : Int32) (fCop : Int32) (fGro : Int32) (fShr : Int32) (hX : Int32) (hC : Int32) (hR : Nat → StT) (oF : Nat → Int64)  (h : f_X7_moveTo Z p1 vCar vGoa vEag tN tF cN cF mP mS kCap kGap kCar kCop kGro kShr hX hC hR = some (.inr "java/lang/IndexOutOfBoundsException")) : CWI l yL_moveTo cL_moveTo 4 rw_L_moveTo [(0, 9, 12, 30)] D cI cS cL [.ref (hh 0), .int p1, .ref ho] ((ho, .inl (cL, 1, .inr (.inl oF))) :: wX7 cI cS hh vCar vGoa vEag tN tF cN cF mP mS kCap kGap kCar kCop kGro kShr bN bF rCmd rLet rNum fCap fGap fCar fCop fGro fShr hX hC hR) ((ho, .inl (cL, 1, .inr (.inl oF))) :: wX7 cI cS hh vCar vGoa vEag tN tF cN cF mP mS kCap kGap kCar kCop kGro kShr bN bF rCmd rLet rNum fCap fGap fCar fCop fGro fShr hX hC hR) 1 := by
  refine ent_w (by decide +kernel) (Nat.le_of_ble_eq_true rfl) ?_
  intro p e s m args below meth c A ls hx hb hr hml hlocks hg hown hK hP hD hS hA hl htab hZ
  have hown : s.vm.findClass RL = some m.cls := hown
  have hl : lv_has ls 4 [(0, .ref (hh 0)), (1, .int p1), (2, .ref ho)] := hl
  have hP : va_P D vwCl ((ho, .inl (cL, 1, .inr (.inl oF))) :: wX7 cI cS hh vCar vGoa vEag tN tF cN cF mP mS kCap kGap kCar kCop kGro kShr bN bF rCmd rLet rNum fCap fGap fCar fCop fGro fShr hX hC hR) s.heap := hP
  have hD : va_D A ((ho, .inl (cL, 1, .inr (.inl oF))) :: wX7 cI cS hh vCar vGoa vEag tN tF cN cF mP mS kCap kGap kCar kCop kGro kShr bN bF rCmd rLet rNum fCap fGap fCar fCop fGro fShr hX hC hR) := hD
  refine lv_aload_n hx hb dL_moveTo_0 rfl (lv_at hl 2 rfl) ?_
  refine lv_iconst (v := 0) hx hb dL_moveTo_1 (by decide) ?_
  refine lv_aload_n hx hb dL_moveTo_2 rfl (lv_at hl 0 rfl) ?_
  refine lv_iload_n hx hb dL_moveTo_3 rfl (lv_at hl 1 rfl) ?_
  refine cX_i (As := [.int p1]) (rest := [.int 0, .ref ho]) (wc := wX7 cI cS hh vCar vGoa vEag tN tF cN cF mP mS kCap kGap kCar kCop kGro kShr bN bF rCmd rLet rNum fCap fGap fCar fCop fGro fShr hX hC hR) (wc' := wX7 cI cS hh vCar vGoa vEag tN tF cN cF mP mS kCap kGap kCar kCop kGro kShr bN bF rCmd rLet rNum fCap fGap fCar fCop fGro fShr hX hC hR) (ws' := ((ho, .inl (cL, 1, .inr (.inl oF))) :: wX7 cI cS hh vCar vGoa vEag tN tF cN cF mP mS kCap kGap kCar kCop kGro kShr bN bF rCmd rLet rNum fCap fGap fCar fCop fGro fShr hX hC hR)) hx hb hml hown hg hK hP hD hS hA hl.1 hZ (t_X7_moveTo l hlt D cI cS cL Z hh p1 vCar vGoa vEag tN tF cN cF mP mS kCap kGap kCar kCop kGro kShr bN bF rCmd rLet rNum fCap fGap fCar fCop fGro fShr hX hC hR h) gm_X7_moveTo gw_671 ⟨rfl, rfl, by decide, by decide⟩ ⟨by decide, by decide⟩ pm_o pm_o fst_X7 rfl rfl rfl rfl rfl (Nat.le_of_ble_eq_true rfl) dL_moveTo_4 [] (⟨0, 9, 12, 30⟩ : ExceptionTableEntry) [] htab (fun z hz => nomatch hz) (by decide) (by decide) (hg _ gw_670) (kk_nest hK nw_684) (fun q9 H locs hP hD hS => ?_)
  refine lv_astore_n (lv' := [(3, .ref q9), (0, .ref (hh 0)), (1, .int p1), (2, .ref ho)]) hx hb dL_moveTo_12 rfl hl (by decide) rfl (fun ls hl => ?_)
  refine lv_iconst (v := 1) hx hb dL_moveTo_13 (by decide) ?_
  exact ret_w hx hb hr hlocks hP hD hS (by decide) (by decide) dL_moveTo_14 rfl
abbrev rw_L_paste : Room := { frames := 8, cells := 1, slots := 6, locals := 134 }
set_option maxRecDepth 100000 in
set_option maxHeartbeats 4000000 in
theorem k_L_paste (l : Launch) (D : va_G) (cI cS cL : ClassId) (Z : Nat) (hh : Nat → Nat) (ho : Nat)  (vCar : Int32) (vGoa : Int32) (vEag : Int32) (tN : Int32) (tF : Nat → Int32) (cN : Int32) (cF : Nat → Int32) (mP : Nat → Int32) (mS : Nat → Int32) (kCap : Int32) (kGap : Int32) (kCar : Int32) (kCop : Int32) (kGro : Int32) (kShr : Int32) (bN : Int32) (bF : Nat → Int32) (rCmd : Int32) (rLet : Int32) (rNum : Int32) (fCap : Int32) (fGap : Int32) (fCar : Int32) (fCop : Int32) (fGro : Int32) (fShr : Int32) (hX : Int32) (hC : Int32) (hR : Nat → StT) (oF : Nat → Int64) {r : Int32} {vCar' : Int32} {vGoa' : Int32} {tN' : Int32} {tF' : Nat → Int32} {mP' : Nat → Int32} {kCap' : Int32} {kGap' : Int32} {kCar' : Int32} {kCop' : Int32} {kGro' : Int32} {hX' : Int32} {hC' : Int32} {hR' : Nat → StT} (h : f_X7_paste Z vCar vGoa vEag tN tF cN cF mP mS kCap kGap kCar kCop kGro kShr hX hC hR = some (.inl (r, vCar', vGoa', tN', tF', mP', kCap', kGap', kCar', kCop', kGro', hX', hC', hR'))) : CWI l yL_paste cL_paste 3 rw_L_paste [(0, 8, 11, 15)] D cI cS cL [.ref (hh 0), .ref ho] ((ho, .inl (cL, 1, .inr (.inl oF))) :: wX7 cI cS hh vCar vGoa vEag tN tF cN cF mP mS kCap kGap kCar kCop kGro kShr bN bF rCmd rLet rNum fCap fGap fCar fCop fGro fShr hX hC hR) ((ho, .inl (cL, 1, .inr (.inl (vp_updL oF 0 (r : Int32).toInt64)))) :: wX7 cI cS hh vCar' vGoa' vEag tN' tF' cN cF mP' mS kCap' kGap' kCar' kCop' kGro' kShr bN bF rCmd rLet rNum fCap fGap fCar fCop fGro fShr hX' hC' hR') 0 := by
  refine ent_w (by decide +kernel) (Nat.le_of_ble_eq_true rfl) ?_
  intro p e s m args below meth c A ls hx hb hr hml hlocks hg hown hK hP hD hS hA hl htab hZ
  have hown : s.vm.findClass RL = some m.cls := hown
  have hl : lv_has ls 3 [(0, .ref (hh 0)), (1, .ref ho)] := hl
  have hP : va_P D vwCl ((ho, .inl (cL, 1, .inr (.inl oF))) :: wX7 cI cS hh vCar vGoa vEag tN tF cN cF mP mS kCap kGap kCar kCop kGro kShr bN bF rCmd rLet rNum fCap fGap fCar fCop fGro fShr hX hC hR) s.heap := hP
  have hD : va_D A ((ho, .inl (cL, 1, .inr (.inl oF))) :: wX7 cI cS hh vCar vGoa vEag tN tF cN cF mP mS kCap kGap kCar kCop kGro kShr bN bF rCmd rLet rNum fCap fGap fCar fCop fGro fShr hX hC hR) := hD
  refine lv_aload_n hx hb dL_paste_0 rfl (lv_at hl 1 rfl) ?_
  refine lv_iconst (v := 0) hx hb dL_paste_1 (by decide) ?_
  refine lv_aload_n hx hb dL_paste_2 rfl (lv_at hl 0 rfl) ?_
  refine cP_i (As := []) (rest := [.int 0, .ref ho]) (wc := wX7 cI cS hh vCar vGoa vEag tN tF cN cF mP mS kCap kGap kCar kCop kGro kShr bN bF rCmd rLet rNum fCap fGap fCar fCop fGro fShr hX hC hR) (wc' := wX7 cI cS hh vCar' vGoa' vEag tN' tF' cN cF mP' mS kCap' kGap' kCar' kCop' kGro' kShr bN bF rCmd rLet rNum fCap fGap fCar fCop fGro fShr hX' hC' hR') (ws' := ((ho, .inl (cL, 1, .inr (.inl oF))) :: wX7 cI cS hh vCar' vGoa' vEag tN' tF' cN cF mP' mS kCap' kGap' kCar' kCop' kGro' kShr bN bF rCmd rLet rNum fCap fGap fCar fCop fGro fShr hX' hC' hR')) hx hb hml hown hg hK hP hD hS hA hl.1 (k_X7_paste l D cI cS cL Z hh vCar vGoa vEag tN tF cN cF mP mS kCap kGap kCar kCop kGro kShr bN bF rCmd rLet rNum fCap fGap fCar fCop fGro fShr hX hC hR h) gm_X7_paste gw_748 ⟨rfl, rfl, by decide, by decide⟩ ⟨Nat.zero_le _, Nat.zero_le _⟩ pm_o pm_o fst_X7 rfl rfl rfl rfl rfl (Nat.le_of_ble_eq_true rfl) dL_paste_3 (fun H locs hP hD hS => ?_)
  refine lv_i2l (v := (r : Int32).toInt64) hx hb dL_paste_6 rfl ?_
  refine va_last hx hb hK.1 hP hD hS 0 2 rfl rfl (i := 0) (vp_in_nI (n := 0) (by decide) (by decide)) dL_paste_7 (fun H locs hP hD hS => ?_)
  have hP : va_P D vwCl ((ho, .inl (cL, 1, .inr (.inl (vp_updL oF 0 (r : Int32).toInt64)))) :: wX7 cI cS hh vCar' vGoa' vEag tN' tF' cN cF mP' mS kCap' kGap' kCar' kCop' kGro' kShr bN bF rCmd rLet rNum fCap fGap fCar fCop fGro fShr hX' hC' hR') H := hP
  have hD : va_D A ((ho, .inl (cL, 1, .inr (.inl (vp_updL oF 0 (r : Int32).toInt64)))) :: wX7 cI cS hh vCar' vGoa' vEag tN' tF' cN cF mP' mS kCap' kGap' kCar' kCop' kGro' kShr bN bF rCmd rLet rNum fCap fGap fCar fCop fGro fShr hX' hC' hR') := hD
  refine lv_goto (tgt := 14) hx hb dL_paste_8 (by decide) ?_
  refine lv_iconst (v := 0) hx hb dL_paste_14 (by decide) ?_
  exact ret_w hx hb hr hlocks hP hD hS (by decide) (by decide) dL_paste_15 rfl
set_option maxRecDepth 100000 in
set_option maxHeartbeats 4000000 in
theorem t1_L_paste (l : Launch) (hlt : l.stackTraces = false) (D : va_G) (cI cS cL : ClassId) (Z : Nat) (hh : Nat → Nat) (ho : Nat)  (vCar : Int32) (vGoa : Int32) (vEag : Int32) (tN : Int32) (tF : Nat → Int32) (cN : Int32) (cF : Nat → Int32) (mP : Nat → Int32) (mS : Nat → Int32) (kCap : Int32) (kGap : Int32) (kCar : Int32) (kCop : Int32) (kGro : Int32) (kShr : Int32) (bN : Int32) (bF : Nat → Int32) (rCmd : Int32) (rLet : Int32) (rNum : Int32) (fCap : Int32) (fGap : Int32) (fCar : Int32) (fCop : Int32) (fGro : Int32) (fShr : Int32) (hX : Int32) (hC : Int32) (hR : Nat → StT) (oF : Nat → Int64)  (h : f_X7_paste Z vCar vGoa vEag tN tF cN cF mP mS kCap kGap kCar kCop kGro kShr hX hC hR = some (.inr "java/lang/IllegalStateException")) : CWI l yL_paste cL_paste 3 rw_L_paste [(0, 8, 11, 15)] D cI cS cL [.ref (hh 0), .ref ho] ((ho, .inl (cL, 1, .inr (.inl oF))) :: wX7 cI cS hh vCar vGoa vEag tN tF cN cF mP mS kCap kGap kCar kCop kGro kShr bN bF rCmd rLet rNum fCap fGap fCar fCop fGro fShr hX hC hR) ((ho, .inl (cL, 1, .inr (.inl oF))) :: wX7 cI cS hh vCar vGoa vEag tN tF cN cF mP mS kCap kGap kCar kCop kGro kShr bN bF rCmd rLet rNum fCap fGap fCar fCop fGro fShr hX hC hR) 1 := by
  refine ent_w (by decide +kernel) (Nat.le_of_ble_eq_true rfl) ?_
  intro p e s m args below meth c A ls hx hb hr hml hlocks hg hown hK hP hD hS hA hl htab hZ
  have hown : s.vm.findClass RL = some m.cls := hown
  have hl : lv_has ls 3 [(0, .ref (hh 0)), (1, .ref ho)] := hl
  have hP : va_P D vwCl ((ho, .inl (cL, 1, .inr (.inl oF))) :: wX7 cI cS hh vCar vGoa vEag tN tF cN cF mP mS kCap kGap kCar kCop kGro kShr bN bF rCmd rLet rNum fCap fGap fCar fCop fGro fShr hX hC hR) s.heap := hP
  have hD : va_D A ((ho, .inl (cL, 1, .inr (.inl oF))) :: wX7 cI cS hh vCar vGoa vEag tN tF cN cF mP mS kCap kGap kCar kCop kGro kShr bN bF rCmd rLet rNum fCap fGap fCar fCop fGro fShr hX hC hR) := hD
  refine lv_aload_n hx hb dL_paste_0 rfl (lv_at hl 1 rfl) ?_
  refine lv_iconst (v := 0) hx hb dL_paste_1 (by decide) ?_
  refine lv_aload_n hx hb dL_paste_2 rfl (lv_at hl 0 rfl) ?_
  refine cX_i (As := []) (rest := [.int 0, .ref ho]) (wc := wX7 cI cS hh vCar vGoa vEag tN tF cN cF mP mS kCap kGap kCar kCop kGro kShr bN bF rCmd rLet rNum fCap fGap fCar fCop fGro fShr hX hC hR) (wc' := wX7 cI cS hh vCar vGoa vEag tN tF cN cF mP mS kCap kGap kCar kCop kGro kShr bN bF rCmd rLet rNum fCap fGap fCar fCop fGro fShr hX hC hR) (ws' := ((ho, .inl (cL, 1, .inr (.inl oF))) :: wX7 cI cS hh vCar vGoa vEag tN tF cN cF mP mS kCap kGap kCar kCop kGro kShr bN bF rCmd rLet rNum fCap fGap fCar fCop fGro fShr hX hC hR)) hx hb hml hown hg hK hP hD hS hA hl.1 hZ (t_X7_paste l hlt D cI cS cL Z hh vCar vGoa vEag tN tF cN cF mP mS kCap kGap kCar kCop kGro kShr bN bF rCmd rLet rNum fCap fGap fCar fCop fGro fShr hX hC hR h) gm_X7_paste gw_748 ⟨rfl, rfl, by decide, by decide⟩ ⟨by decide, by decide⟩ pm_o pm_o fst_X7 rfl rfl rfl rfl rfl (Nat.le_of_ble_eq_true rfl) dL_paste_3 [] (⟨0, 8, 11, 15⟩ : ExceptionTableEntry) [] htab (fun z hz => nomatch hz) (by decide) (by decide) (hg _ gw_493) (kk_nest hK nw_576) (fun q9 H locs hP hD hS => ?_)
  refine lv_astore_n (lv' := [(2, .ref q9), (0, .ref (hh 0)), (1, .ref ho)]) hx hb dL_paste_11 rfl hl (by decide) rfl (fun ls hl => ?_)
  refine lv_iconst (v := 1) hx hb dL_paste_12 (by decide) ?_
  exact ret_w hx hb hr hlocks hP hD hS (by decide) (by decide) dL_paste_13 rfl
abbrev rw_L_run : Room := { frames := 8, cells := 1, slots := 6, locals := 181 }
set_option maxRecDepth 100000 in
set_option maxHeartbeats 4000000 in
theorem k_L_run (l : Launch) (D : va_G) (cI cS cL : ClassId) (Z : Nat) (hh : Nat → Nat) (ho : Nat)  (vCar : Int32) (vGoa : Int32) (vEag : Int32) (tN : Int32) (tF : Nat → Int32) (cN : Int32) (cF : Nat → Int32) (mP : Nat → Int32) (mS : Nat → Int32) (kCap : Int32) (kGap : Int32) (kCar : Int32) (kCop : Int32) (kGro : Int32) (kShr : Int32) (bN : Int32) (bF : Nat → Int32) (rCmd : Int32) (rLet : Int32) (rNum : Int32) (fCap : Int32) (fGap : Int32) (fCar : Int32) (fCop : Int32) (fGro : Int32) (fShr : Int32) (hX : Int32) (hC : Int32) (hR : Nat → StT) (oF : Nat → Int64) {r : Int32} {vCar' : Int32} {vGoa' : Int32} {tN' : Int32} {tF' : Nat → Int32} {cN' : Int32} {cF' : Nat → Int32} {mP' : Nat → Int32} {mS' : Nat → Int32} {kCap' : Int32} {kGap' : Int32} {kCar' : Int32} {kCop' : Int32} {kGro' : Int32} {kShr' : Int32} {bN' : Int32} {rCmd' : Int32} {rLet' : Int32} {rNum' : Int32} {hX' : Int32} {hC' : Int32} {hR' : Nat → StT} (h : f_X7_run Z vCar vGoa vEag tN tF cN cF mP mS kCap kGap kCar kCop kGro kShr bN bF rCmd rLet rNum hX hC hR = some (.inl (r, vCar', vGoa', tN', tF', cN', cF', mP', mS', kCap', kGap', kCar', kCop', kGro', kShr', bN', rCmd', rLet', rNum', hX', hC', hR'))) : CWI l yL_run cL_run 3 rw_L_run [(0, 8, 11, 13)] D cI cS cL [.ref (hh 0), .ref ho] ((ho, .inl (cL, 1, .inr (.inl oF))) :: wX7 cI cS hh vCar vGoa vEag tN tF cN cF mP mS kCap kGap kCar kCop kGro kShr bN bF rCmd rLet rNum fCap fGap fCar fCop fGro fShr hX hC hR) ((ho, .inl (cL, 1, .inr (.inl (vp_updL oF 0 (r : Int32).toInt64)))) :: wX7 cI cS hh vCar' vGoa' vEag tN' tF' cN' cF' mP' mS' kCap' kGap' kCar' kCop' kGro' kShr' bN' bF rCmd' rLet' rNum' fCap fGap fCar fCop fGro fShr hX' hC' hR') 0 := by
  refine ent_w (by decide +kernel) (Nat.le_of_ble_eq_true rfl) ?_
  intro p e s m args below meth c A ls hx hb hr hml hlocks hg hown hK hP hD hS hA hl htab hZ
  have hown : s.vm.findClass RL = some m.cls := hown
  have hl : lv_has ls 3 [(0, .ref (hh 0)), (1, .ref ho)] := hl
  have hP : va_P D vwCl ((ho, .inl (cL, 1, .inr (.inl oF))) :: wX7 cI cS hh vCar vGoa vEag tN tF cN cF mP mS kCap kGap kCar kCop kGro kShr bN bF rCmd rLet rNum fCap fGap fCar fCop fGro fShr hX hC hR) s.heap := hP
  have hD : va_D A ((ho, .inl (cL, 1, .inr (.inl oF))) :: wX7 cI cS hh vCar vGoa vEag tN tF cN cF mP mS kCap kGap kCar kCop kGro kShr bN bF rCmd rLet rNum fCap fGap fCar fCop fGro fShr hX hC hR) := hD
  refine lv_aload_n hx hb dL_run_0 rfl (lv_at hl 1 rfl) ?_
  refine lv_iconst (v := 0) hx hb dL_run_1 (by decide) ?_
  refine lv_aload_n hx hb dL_run_2 rfl (lv_at hl 0 rfl) ?_
  refine cP_i (As := []) (rest := [.int 0, .ref ho]) (wc := wX7 cI cS hh vCar vGoa vEag tN tF cN cF mP mS kCap kGap kCar kCop kGro kShr bN bF rCmd rLet rNum fCap fGap fCar fCop fGro fShr hX hC hR) (wc' := wX7 cI cS hh vCar' vGoa' vEag tN' tF' cN' cF' mP' mS' kCap' kGap' kCar' kCop' kGro' kShr' bN' bF rCmd' rLet' rNum' fCap fGap fCar fCop fGro fShr hX' hC' hR') (ws' := ((ho, .inl (cL, 1, .inr (.inl oF))) :: wX7 cI cS hh vCar' vGoa' vEag tN' tF' cN' cF' mP' mS' kCap' kGap' kCar' kCop' kGro' kShr' bN' bF rCmd' rLet' rNum' fCap fGap fCar fCop fGro fShr hX' hC' hR')) hx hb hml hown hg hK hP hD hS hA hl.1 (k_X7_run l D cI cS cL Z hh vCar vGoa vEag tN tF cN cF mP mS kCap kGap kCar kCop kGro kShr bN bF rCmd rLet rNum fCap fGap fCar fCop fGro fShr hX hC hR h) gm_X7_run gw_883 ⟨rfl, rfl, by decide, by decide⟩ ⟨Nat.zero_le _, Nat.zero_le _⟩ pm_o pm_o fst_X7 rfl rfl rfl rfl rfl (Nat.le_of_ble_eq_true rfl) dL_run_3 (fun H locs hP hD hS => ?_)
  refine lv_i2l (v := (r : Int32).toInt64) hx hb dL_run_6 rfl ?_
  refine va_last hx hb hK.1 hP hD hS 0 2 rfl rfl (i := 0) (vp_in_nI (n := 0) (by decide) (by decide)) dL_run_7 (fun H locs hP hD hS => ?_)
  have hP : va_P D vwCl ((ho, .inl (cL, 1, .inr (.inl (vp_updL oF 0 (r : Int32).toInt64)))) :: wX7 cI cS hh vCar' vGoa' vEag tN' tF' cN' cF' mP' mS' kCap' kGap' kCar' kCop' kGro' kShr' bN' bF rCmd' rLet' rNum' fCap fGap fCar fCop fGro fShr hX' hC' hR') H := hP
  have hD : va_D A ((ho, .inl (cL, 1, .inr (.inl (vp_updL oF 0 (r : Int32).toInt64)))) :: wX7 cI cS hh vCar' vGoa' vEag tN' tF' cN' cF' mP' mS' kCap' kGap' kCar' kCop' kGro' kShr' bN' bF rCmd' rLet' rNum' fCap fGap fCar fCop fGro fShr hX' hC' hR') := hD
  refine lv_goto (tgt := 14) hx hb dL_run_8 (by decide) ?_
  refine lv_iconst (v := 0) hx hb dL_run_14 (by decide) ?_
  exact ret_w hx hb hr hlocks hP hD hS (by decide) (by decide) dL_run_15 rfl
set_option maxRecDepth 100000 in
set_option maxHeartbeats 4000000 in
theorem t1_L_run (l : Launch) (hlt : l.stackTraces = false) (D : va_G) (cI cS cL : ClassId) (Z : Nat) (hh : Nat → Nat) (ho : Nat)  (vCar : Int32) (vGoa : Int32) (vEag : Int32) (tN : Int32) (tF : Nat → Int32) (cN : Int32) (cF : Nat → Int32) (mP : Nat → Int32) (mS : Nat → Int32) (kCap : Int32) (kGap : Int32) (kCar : Int32) (kCop : Int32) (kGro : Int32) (kShr : Int32) (bN : Int32) (bF : Nat → Int32) (rCmd : Int32) (rLet : Int32) (rNum : Int32) (fCap : Int32) (fGap : Int32) (fCar : Int32) (fCop : Int32) (fGro : Int32) (fShr : Int32) (hX : Int32) (hC : Int32) (hR : Nat → StT) (oF : Nat → Int64) {rCmd' : Int32} {rLet' : Int32} {rNum' : Int32} (h : f_X7_run Z vCar vGoa vEag tN tF cN cF mP mS kCap kGap kCar kCop kGro kShr bN bF rCmd rLet rNum hX hC hR = some (.inr ("java/lang/IllegalArgumentException", rCmd', rLet', rNum'))) : CWI l yL_run cL_run 3 rw_L_run [(0, 8, 11, 13)] D cI cS cL [.ref (hh 0), .ref ho] ((ho, .inl (cL, 1, .inr (.inl oF))) :: wX7 cI cS hh vCar vGoa vEag tN tF cN cF mP mS kCap kGap kCar kCop kGro kShr bN bF rCmd rLet rNum fCap fGap fCar fCop fGro fShr hX hC hR) ((ho, .inl (cL, 1, .inr (.inl oF))) :: wX7 cI cS hh vCar vGoa vEag tN tF cN cF mP mS kCap kGap kCar kCop kGro kShr bN bF rCmd' rLet' rNum' fCap fGap fCar fCop fGro fShr hX hC hR) 1 := by
  refine ent_w (by decide +kernel) (Nat.le_of_ble_eq_true rfl) ?_
  intro p e s m args below meth c A ls hx hb hr hml hlocks hg hown hK hP hD hS hA hl htab hZ
  have hown : s.vm.findClass RL = some m.cls := hown
  have hl : lv_has ls 3 [(0, .ref (hh 0)), (1, .ref ho)] := hl
  have hP : va_P D vwCl ((ho, .inl (cL, 1, .inr (.inl oF))) :: wX7 cI cS hh vCar vGoa vEag tN tF cN cF mP mS kCap kGap kCar kCop kGro kShr bN bF rCmd rLet rNum fCap fGap fCar fCop fGro fShr hX hC hR) s.heap := hP
  have hD : va_D A ((ho, .inl (cL, 1, .inr (.inl oF))) :: wX7 cI cS hh vCar vGoa vEag tN tF cN cF mP mS kCap kGap kCar kCop kGro kShr bN bF rCmd rLet rNum fCap fGap fCar fCop fGro fShr hX hC hR) := hD
  refine lv_aload_n hx hb dL_run_0 rfl (lv_at hl 1 rfl) ?_
  refine lv_iconst (v := 0) hx hb dL_run_1 (by decide) ?_
  refine lv_aload_n hx hb dL_run_2 rfl (lv_at hl 0 rfl) ?_
  refine cX_i (As := []) (rest := [.int 0, .ref ho]) (wc := wX7 cI cS hh vCar vGoa vEag tN tF cN cF mP mS kCap kGap kCar kCop kGro kShr bN bF rCmd rLet rNum fCap fGap fCar fCop fGro fShr hX hC hR) (wc' := wX7 cI cS hh vCar vGoa vEag tN tF cN cF mP mS kCap kGap kCar kCop kGro kShr bN bF rCmd' rLet' rNum' fCap fGap fCar fCop fGro fShr hX hC hR) (ws' := ((ho, .inl (cL, 1, .inr (.inl oF))) :: wX7 cI cS hh vCar vGoa vEag tN tF cN cF mP mS kCap kGap kCar kCop kGro kShr bN bF rCmd' rLet' rNum' fCap fGap fCar fCop fGro fShr hX hC hR)) hx hb hml hown hg hK hP hD hS hA hl.1 hZ (t_X7_run l hlt D cI cS cL Z hh vCar vGoa vEag tN tF cN cF mP mS kCap kGap kCar kCop kGro kShr bN bF rCmd rLet rNum fCap fGap fCar fCop fGro fShr hX hC hR h) gm_X7_run gw_883 ⟨rfl, rfl, by decide, by decide⟩ ⟨by decide, by decide⟩ pm_o pm_o fst_X7 rfl rfl rfl rfl rfl (Nat.le_of_ble_eq_true rfl) dL_run_3 [] (⟨0, 8, 11, 13⟩ : ExceptionTableEntry) [] htab (fun z hz => nomatch hz) (by decide) (by decide) (hg _ gw_492) (kk_nest hK nw_506) (fun q9 H locs hP hD hS => ?_)
  refine lv_astore_n (lv' := [(2, .ref q9), (0, .ref (hh 0)), (1, .ref ho)]) hx hb dL_run_11 rfl hl (by decide) rfl (fun ls hl => ?_)
  refine lv_iconst (v := 1) hx hb dL_run_12 (by decide) ?_
  exact ret_w hx hb hr hlocks hP hD hS (by decide) (by decide) dL_run_13 rfl
abbrev rw_L_setMark : Room := { frames := 8, cells := 1, slots := 6, locals := 130 }
set_option maxRecDepth 100000 in
set_option maxHeartbeats 4000000 in
theorem k_L_setMark (l : Launch) (D : va_G) (cI cS cL : ClassId) (Z : Nat) (hh : Nat → Nat) (ho : Nat) (p1 : Int32) (p2 : Int32) (vCar : Int32) (vGoa : Int32) (vEag : Int32) (tN : Int32) (tF : Nat → Int32) (cN : Int32) (cF : Nat → Int32) (mP : Nat → Int32) (mS : Nat → Int32) (kCap : Int32) (kGap : Int32) (kCar : Int32) (kCop : Int32) (kGro : Int32) (kShr : Int32) (bN : Int32) (bF : Nat → Int32) (rCmd : Int32) (rLet : Int32) (rNum : Int32) (fCap : Int32) (fGap : Int32) (fCar : Int32) (fCop : Int32) (fGro : Int32) (fShr : Int32) (hX : Int32) (hC : Int32) (hR : Nat → StT) (oF : Nat → Int64) {r : Int32} {mP' : Nat → Int32} {mS' : Nat → Int32} {hX' : Int32} {hC' : Int32} {hR' : Nat → StT} (h : f_X7_setMark Z p1 p2 vCar vGoa vEag tN tF cN cF mP mS kCap kGap kCar kCop kGro kShr hX hC hR = some (.inl (r, mP', mS', hX', hC', hR'))) : CWI l yL_setMark cL_setMark 5 rw_L_setMark [(0, 10, 13, 30), (0, 10, 17, 13)] D cI cS cL [.ref (hh 0), .int p1, .int p2, .ref ho] ((ho, .inl (cL, 1, .inr (.inl oF))) :: wX7 cI cS hh vCar vGoa vEag tN tF cN cF mP mS kCap kGap kCar kCop kGro kShr bN bF rCmd rLet rNum fCap fGap fCar fCop fGro fShr hX hC hR) ((ho, .inl (cL, 1, .inr (.inl (vp_updL oF 0 (r : Int32).toInt64)))) :: wX7 cI cS hh vCar vGoa vEag tN tF cN cF mP' mS' kCap kGap kCar kCop kGro kShr bN bF rCmd rLet rNum fCap fGap fCar fCop fGro fShr hX' hC' hR') 0 := by
  refine ent_w (by decide +kernel) (Nat.le_of_ble_eq_true rfl) ?_
  intro p e s m args below meth c A ls hx hb hr hml hlocks hg hown hK hP hD hS hA hl htab hZ
  have hown : s.vm.findClass RL = some m.cls := hown
  have hl : lv_has ls 5 [(0, .ref (hh 0)), (1, .int p1), (2, .int p2), (3, .ref ho)] := hl
  have hP : va_P D vwCl ((ho, .inl (cL, 1, .inr (.inl oF))) :: wX7 cI cS hh vCar vGoa vEag tN tF cN cF mP mS kCap kGap kCar kCop kGro kShr bN bF rCmd rLet rNum fCap fGap fCar fCop fGro fShr hX hC hR) s.heap := hP
  have hD : va_D A ((ho, .inl (cL, 1, .inr (.inl oF))) :: wX7 cI cS hh vCar vGoa vEag tN tF cN cF mP mS kCap kGap kCar kCop kGro kShr bN bF rCmd rLet rNum fCap fGap fCar fCop fGro fShr hX hC hR) := hD
  refine lv_aload_n hx hb dL_setMark_0 rfl (lv_at hl 3 rfl) ?_
  refine lv_iconst (v := 0) hx hb dL_setMark_1 (by decide) ?_
  refine lv_aload_n hx hb dL_setMark_2 rfl (lv_at hl 0 rfl) ?_
  refine lv_iload_n hx hb dL_setMark_3 rfl (lv_at hl 1 rfl) ?_
  refine lv_iload_n hx hb dL_setMark_4 rfl (lv_at hl 2 rfl) ?_
  refine cP_i (As := [.int p1, .int p2]) (rest := [.int 0, .ref ho]) (wc := wX7 cI cS hh vCar vGoa vEag tN tF cN cF mP mS kCap kGap kCar kCop kGro kShr bN bF rCmd rLet rNum fCap fGap fCar fCop fGro fShr hX hC hR) (wc' := wX7 cI cS hh vCar vGoa vEag tN tF cN cF mP' mS' kCap kGap kCar kCop kGro kShr bN bF rCmd rLet rNum fCap fGap fCar fCop fGro fShr hX' hC' hR') (ws' := ((ho, .inl (cL, 1, .inr (.inl oF))) :: wX7 cI cS hh vCar vGoa vEag tN tF cN cF mP' mS' kCap kGap kCar kCop kGro kShr bN bF rCmd rLet rNum fCap fGap fCar fCop fGro fShr hX' hC' hR')) hx hb hml hown hg hK hP hD hS hA hl.1 (k_X7_setMark l D cI cS cL Z hh p1 p2 vCar vGoa vEag tN tF cN cF mP mS kCap kGap kCar kCop kGro kShr bN bF rCmd rLet rNum fCap fGap fCar fCop fGro fShr hX hC hR h) gm_X7_setMark gw_709 ⟨rfl, rfl, by decide, by decide⟩ ⟨Nat.zero_le _, Nat.zero_le _⟩ pm_o pm_o fst_X7 rfl rfl rfl rfl rfl (Nat.le_of_ble_eq_true rfl) dL_setMark_5 (fun H locs hP hD hS => ?_)
  refine lv_i2l (v := (r : Int32).toInt64) hx hb dL_setMark_8 rfl ?_
  refine va_last hx hb hK.1 hP hD hS 0 2 rfl rfl (i := 0) (vp_in_nI (n := 0) (by decide) (by decide)) dL_setMark_9 (fun H locs hP hD hS => ?_)
  have hP : va_P D vwCl ((ho, .inl (cL, 1, .inr (.inl (vp_updL oF 0 (r : Int32).toInt64)))) :: wX7 cI cS hh vCar vGoa vEag tN tF cN cF mP' mS' kCap kGap kCar kCop kGro kShr bN bF rCmd rLet rNum fCap fGap fCar fCop fGro fShr hX' hC' hR') H := hP
  have hD : va_D A ((ho, .inl (cL, 1, .inr (.inl (vp_updL oF 0 (r : Int32).toInt64)))) :: wX7 cI cS hh vCar vGoa vEag tN tF cN cF mP' mS' kCap kGap kCar kCop kGro kShr bN bF rCmd rLet rNum fCap fGap fCar fCop fGro fShr hX' hC' hR') := hD
  refine lv_goto (tgt := 21) hx hb dL_setMark_10 (by decide) ?_
  refine lv_iconst (v := 0) hx hb dL_setMark_21 (by decide) ?_
  exact ret_w hx hb hr hlocks hP hD hS (by decide) (by decide) dL_setMark_22 rfl
set_option maxRecDepth 100000 in
set_option maxHeartbeats 4000000 in
theorem t1_L_setMark (l : Launch) (hlt : l.stackTraces = false) (D : va_G) (cI cS cL : ClassId) (Z : Nat) (hh : Nat → Nat) (ho : Nat) (p1 : Int32) (p2 : Int32) (vCar : Int32) (vGoa : Int32) (vEag : Int32) (tN : Int32) (tF : Nat → Int32) (cN : Int32) (cF : Nat → Int32) (mP : Nat → Int32) (mS : Nat → Int32) (kCap : Int32) (kGap : Int32) (kCar : Int32) (kCop : Int32) (kGro : Int32) (kShr : Int32) (bN : Int32) (bF : Nat → Int32) (rCmd : Int32) (rLet : Int32) (rNum : Int32) (fCap : Int32) (fGap : Int32) (fCar : Int32) (fCop : Int32) (fGro : Int32) (fShr : Int32) (hX : Int32) (hC : Int32) (hR : Nat → StT) (oF : Nat → Int64)  (h : f_X7_setMark Z p1 p2 vCar vGoa vEag tN tF cN cF mP mS kCap kGap kCar kCop kGro kShr hX hC hR = some (.inr "java/lang/IndexOutOfBoundsException")) : CWI l yL_setMark cL_setMark 5 rw_L_setMark [(0, 10, 13, 30), (0, 10, 17, 13)] D cI cS cL [.ref (hh 0), .int p1, .int p2, .ref ho] ((ho, .inl (cL, 1, .inr (.inl oF))) :: wX7 cI cS hh vCar vGoa vEag tN tF cN cF mP mS kCap kGap kCar kCop kGro kShr bN bF rCmd rLet rNum fCap fGap fCar fCop fGro fShr hX hC hR) ((ho, .inl (cL, 1, .inr (.inl oF))) :: wX7 cI cS hh vCar vGoa vEag tN tF cN cF mP mS kCap kGap kCar kCop kGro kShr bN bF rCmd rLet rNum fCap fGap fCar fCop fGro fShr hX hC hR) 1 := by
  refine ent_w (by decide +kernel) (Nat.le_of_ble_eq_true rfl) ?_
  intro p e s m args below meth c A ls hx hb hr hml hlocks hg hown hK hP hD hS hA hl htab hZ
  have hown : s.vm.findClass RL = some m.cls := hown
  have hl : lv_has ls 5 [(0, .ref (hh 0)), (1, .int p1), (2, .int p2), (3, .ref ho)] := hl
  have hP : va_P D vwCl ((ho, .inl (cL, 1, .inr (.inl oF))) :: wX7 cI cS hh vCar vGoa vEag tN tF cN cF mP mS kCap kGap kCar kCop kGro kShr bN bF rCmd rLet rNum fCap fGap fCar fCop fGro fShr hX hC hR) s.heap := hP
  have hD : va_D A ((ho, .inl (cL, 1, .inr (.inl oF))) :: wX7 cI cS hh vCar vGoa vEag tN tF cN cF mP mS kCap kGap kCar kCop kGro kShr bN bF rCmd rLet rNum fCap fGap fCar fCop fGro fShr hX hC hR) := hD
  refine lv_aload_n hx hb dL_setMark_0 rfl (lv_at hl 3 rfl) ?_
  refine lv_iconst (v := 0) hx hb dL_setMark_1 (by decide) ?_
  refine lv_aload_n hx hb dL_setMark_2 rfl (lv_at hl 0 rfl) ?_
  refine lv_iload_n hx hb dL_setMark_3 rfl (lv_at hl 1 rfl) ?_
  refine lv_iload_n hx hb dL_setMark_4 rfl (lv_at hl 2 rfl) ?_
  refine cX_i (As := [.int p1, .int p2]) (rest := [.int 0, .ref ho]) (wc := wX7 cI cS hh vCar vGoa vEag tN tF cN cF mP mS kCap kGap kCar kCop kGro kShr bN bF rCmd rLet rNum fCap fGap fCar fCop fGro fShr hX hC hR) (wc' := wX7 cI cS hh vCar vGoa vEag tN tF cN cF mP mS kCap kGap kCar kCop kGro kShr bN bF rCmd rLet rNum fCap fGap fCar fCop fGro fShr hX hC hR) (ws' := ((ho, .inl (cL, 1, .inr (.inl oF))) :: wX7 cI cS hh vCar vGoa vEag tN tF cN cF mP mS kCap kGap kCar kCop kGro kShr bN bF rCmd rLet rNum fCap fGap fCar fCop fGro fShr hX hC hR)) hx hb hml hown hg hK hP hD hS hA hl.1 hZ (t_X7_setMark l hlt D cI cS cL Z hh p1 p2 vCar vGoa vEag tN tF cN cF mP mS kCap kGap kCar kCop kGro kShr bN bF rCmd rLet rNum fCap fGap fCar fCop fGro fShr hX hC hR h) gm_X7_setMark gw_709 ⟨rfl, rfl, by decide, by decide⟩ ⟨by decide, by decide⟩ pm_o pm_o fst_X7 rfl rfl rfl rfl rfl (Nat.le_of_ble_eq_true rfl) dL_setMark_5 [] (⟨0, 10, 13, 30⟩ : ExceptionTableEntry) [(⟨0, 10, 17, 13⟩ : ExceptionTableEntry)] htab (fun z hz => nomatch hz) (by decide) (by decide) (hg _ gw_670) (kk_nest hK nw_684) (fun q9 H locs hP hD hS => ?_)
  refine lv_astore (lv' := [(4, .ref q9), (0, .ref (hh 0)), (1, .int p1), (2, .int p2), (3, .ref ho)]) hx hb dL_setMark_13 hl (by decide) rfl (fun ls hl => ?_)
  refine lv_iconst (v := 1) hx hb dL_setMark_15 (by decide) ?_
  exact ret_w hx hb hr hlocks hP hD hS (by decide) (by decide) dL_setMark_16 rfl
set_option maxRecDepth 100000 in
set_option maxHeartbeats 4000000 in
theorem t2_L_setMark (l : Launch) (hlt : l.stackTraces = false) (D : va_G) (cI cS cL : ClassId) (Z : Nat) (hh : Nat → Nat) (ho : Nat) (p1 : Int32) (p2 : Int32) (vCar : Int32) (vGoa : Int32) (vEag : Int32) (tN : Int32) (tF : Nat → Int32) (cN : Int32) (cF : Nat → Int32) (mP : Nat → Int32) (mS : Nat → Int32) (kCap : Int32) (kGap : Int32) (kCar : Int32) (kCop : Int32) (kGro : Int32) (kShr : Int32) (bN : Int32) (bF : Nat → Int32) (rCmd : Int32) (rLet : Int32) (rNum : Int32) (fCap : Int32) (fGap : Int32) (fCar : Int32) (fCop : Int32) (fGro : Int32) (fShr : Int32) (hX : Int32) (hC : Int32) (hR : Nat → StT) (oF : Nat → Int64)  (h : f_X7_setMark Z p1 p2 vCar vGoa vEag tN tF cN cF mP mS kCap kGap kCar kCop kGro kShr hX hC hR = some (.inr "java/lang/IllegalArgumentException")) : CWI l yL_setMark cL_setMark 5 rw_L_setMark [(0, 10, 13, 30), (0, 10, 17, 13)] D cI cS cL [.ref (hh 0), .int p1, .int p2, .ref ho] ((ho, .inl (cL, 1, .inr (.inl oF))) :: wX7 cI cS hh vCar vGoa vEag tN tF cN cF mP mS kCap kGap kCar kCop kGro kShr bN bF rCmd rLet rNum fCap fGap fCar fCop fGro fShr hX hC hR) ((ho, .inl (cL, 1, .inr (.inl oF))) :: wX7 cI cS hh vCar vGoa vEag tN tF cN cF mP mS kCap kGap kCar kCop kGro kShr bN bF rCmd rLet rNum fCap fGap fCar fCop fGro fShr hX hC hR) 2 := by
  refine ent_w (by decide +kernel) (Nat.le_of_ble_eq_true rfl) ?_
  intro p e s m args below meth c A ls hx hb hr hml hlocks hg hown hK hP hD hS hA hl htab hZ
  have hown : s.vm.findClass RL = some m.cls := hown
  have hl : lv_has ls 5 [(0, .ref (hh 0)), (1, .int p1), (2, .int p2), (3, .ref ho)] := hl
  have hP : va_P D vwCl ((ho, .inl (cL, 1, .inr (.inl oF))) :: wX7 cI cS hh vCar vGoa vEag tN tF cN cF mP mS kCap kGap kCar kCop kGro kShr bN bF rCmd rLet rNum fCap fGap fCar fCop fGro fShr hX hC hR) s.heap := hP
  have hD : va_D A ((ho, .inl (cL, 1, .inr (.inl oF))) :: wX7 cI cS hh vCar vGoa vEag tN tF cN cF mP mS kCap kGap kCar kCop kGro kShr bN bF rCmd rLet rNum fCap fGap fCar fCop fGro fShr hX hC hR) := hD
  refine lv_aload_n hx hb dL_setMark_0 rfl (lv_at hl 3 rfl) ?_
  refine lv_iconst (v := 0) hx hb dL_setMark_1 (by decide) ?_
  refine lv_aload_n hx hb dL_setMark_2 rfl (lv_at hl 0 rfl) ?_
  refine lv_iload_n hx hb dL_setMark_3 rfl (lv_at hl 1 rfl) ?_
  refine lv_iload_n hx hb dL_setMark_4 rfl (lv_at hl 2 rfl) ?_
  refine cX_i (As := [.int p1, .int p2]) (rest := [.int 0, .ref ho]) (wc := wX7 cI cS hh vCar vGoa vEag tN tF cN cF mP mS kCap kGap kCar kCop kGro kShr bN bF rCmd rLet rNum fCap fGap fCar fCop fGro fShr hX hC hR) (wc' := wX7 cI cS hh vCar vGoa vEag tN tF cN cF mP mS kCap kGap kCar kCop kGro kShr bN bF rCmd rLet rNum fCap fGap fCar fCop fGro fShr hX hC hR) (ws' := ((ho, .inl (cL, 1, .inr (.inl oF))) :: wX7 cI cS hh vCar vGoa vEag tN tF cN cF mP mS kCap kGap kCar kCop kGro kShr bN bF rCmd rLet rNum fCap fGap fCar fCop fGro fShr hX hC hR)) hx hb hml hown hg hK hP hD hS hA hl.1 hZ (t_X7_setMark l hlt D cI cS cL Z hh p1 p2 vCar vGoa vEag tN tF cN cF mP mS kCap kGap kCar kCop kGro kShr bN bF rCmd rLet rNum fCap fGap fCar fCop fGro fShr hX hC hR h) gm_X7_setMark gw_709 ⟨rfl, rfl, by decide, by decide⟩ ⟨by decide, by decide⟩ pm_o pm_o fst_X7 rfl rfl rfl rfl rfl (Nat.le_of_ble_eq_true rfl) dL_setMark_5 [(⟨0, 10, 13, 30⟩ : ExceptionTableEntry)] (⟨0, 10, 17, 13⟩ : ExceptionTableEntry) [] htab (fun z hz => by cases List.mem_singleton.mp hz; exact Or.inr ⟨by decide, _, hg _ gw_670, hK.2.2.2.1⟩) (by decide) (by decide) (hg _ gw_492) (kk_nest hK nw_506) (fun q9 H locs hP hD hS => ?_)
  refine lv_astore (lv' := [(4, .ref q9), (0, .ref (hh 0)), (1, .int p1), (2, .int p2), (3, .ref ho)]) hx hb dL_setMark_17 hl (by decide) rfl (fun ls hl => ?_)
  refine lv_iconst (v := 2) hx hb dL_setMark_19 (by decide) ?_
  exact ret_w hx hb hr hlocks hP hD hS (by decide) (by decide) dL_setMark_20 rfl
abbrev rw_L_type : Room := { frames := 8, cells := 1, slots := 6, locals := 134 }
set_option maxRecDepth 100000 in
set_option maxHeartbeats 4000000 in
theorem k_L_type (l : Launch) (D : va_G) (cI cS cL : ClassId) (Z : Nat) (hh : Nat → Nat) (ho : Nat) (p1 : Int32) (vCar : Int32) (vGoa : Int32) (vEag : Int32) (tN : Int32) (tF : Nat → Int32) (cN : Int32) (cF : Nat → Int32) (mP : Nat → Int32) (mS : Nat → Int32) (kCap : Int32) (kGap : Int32) (kCar : Int32) (kCop : Int32) (kGro : Int32) (kShr : Int32) (bN : Int32) (bF : Nat → Int32) (rCmd : Int32) (rLet : Int32) (rNum : Int32) (fCap : Int32) (fGap : Int32) (fCar : Int32) (fCop : Int32) (fGro : Int32) (fShr : Int32) (hX : Int32) (hC : Int32) (hR : Nat → StT) (oF : Nat → Int64) {r : Int32} {vCar' : Int32} {vGoa' : Int32} {tN' : Int32} {tF' : Nat → Int32} {mP' : Nat → Int32} {kCap' : Int32} {kGap' : Int32} {kCar' : Int32} {kCop' : Int32} {kGro' : Int32} {hX' : Int32} {hC' : Int32} {hR' : Nat → StT} (h : f_X7_type Z p1 vCar vGoa vEag tN tF cN cF mP mS kCap kGap kCar kCop kGro kShr hX hC hR = some (.inl (r, vCar', vGoa', tN', tF', mP', kCap', kGap', kCar', kCop', kGro', hX', hC', hR'))) : CWI l yL_type cL_type 4 rw_L_type [(0, 9, 12, 13), (0, 9, 15, 15)] D cI cS cL [.ref (hh 0), .int p1, .ref ho] ((ho, .inl (cL, 1, .inr (.inl oF))) :: wX7 cI cS hh vCar vGoa vEag tN tF cN cF mP mS kCap kGap kCar kCop kGro kShr bN bF rCmd rLet rNum fCap fGap fCar fCop fGro fShr hX hC hR) ((ho, .inl (cL, 1, .inr (.inl (vp_updL oF 0 (r : Int32).toInt64)))) :: wX7 cI cS hh vCar' vGoa' vEag tN' tF' cN cF mP' mS kCap' kGap' kCar' kCop' kGro' kShr bN bF rCmd rLet rNum fCap fGap fCar fCop fGro fShr hX' hC' hR') 0 := by
  refine ent_w (by decide +kernel) (Nat.le_of_ble_eq_true rfl) ?_
  intro p e s m args below meth c A ls hx hb hr hml hlocks hg hown hK hP hD hS hA hl htab hZ
  have hown : s.vm.findClass RL = some m.cls := hown
  have hl : lv_has ls 4 [(0, .ref (hh 0)), (1, .int p1), (2, .ref ho)] := hl
  have hP : va_P D vwCl ((ho, .inl (cL, 1, .inr (.inl oF))) :: wX7 cI cS hh vCar vGoa vEag tN tF cN cF mP mS kCap kGap kCar kCop kGro kShr bN bF rCmd rLet rNum fCap fGap fCar fCop fGro fShr hX hC hR) s.heap := hP
  have hD : va_D A ((ho, .inl (cL, 1, .inr (.inl oF))) :: wX7 cI cS hh vCar vGoa vEag tN tF cN cF mP mS kCap kGap kCar kCop kGro kShr bN bF rCmd rLet rNum fCap fGap fCar fCop fGro fShr hX hC hR) := hD
  refine lv_aload_n hx hb dL_type_0 rfl (lv_at hl 2 rfl) ?_
  refine lv_iconst (v := 0) hx hb dL_type_1 (by decide) ?_
  refine lv_aload_n hx hb dL_type_2 rfl (lv_at hl 0 rfl) ?_
  refine lv_iload_n hx hb dL_type_3 rfl (lv_at hl 1 rfl) ?_
  refine cP_i (As := [.int p1]) (rest := [.int 0, .ref ho]) (wc := wX7 cI cS hh vCar vGoa vEag tN tF cN cF mP mS kCap kGap kCar kCop kGro kShr bN bF rCmd rLet rNum fCap fGap fCar fCop fGro fShr hX hC hR) (wc' := wX7 cI cS hh vCar' vGoa' vEag tN' tF' cN cF mP' mS kCap' kGap' kCar' kCop' kGro' kShr bN bF rCmd rLet rNum fCap fGap fCar fCop fGro fShr hX' hC' hR') (ws' := ((ho, .inl (cL, 1, .inr (.inl oF))) :: wX7 cI cS hh vCar' vGoa' vEag tN' tF' cN cF mP' mS kCap' kGap' kCar' kCop' kGro' kShr bN bF rCmd rLet rNum fCap fGap fCar fCop fGro fShr hX' hC' hR')) hx hb hml hown hg hK hP hD hS hA hl.1 (k_X7_type l D cI cS cL Z hh p1 vCar vGoa vEag tN tF cN cF mP mS kCap kGap kCar kCop kGro kShr bN bF rCmd rLet rNum fCap fGap fCar fCop fGro fShr hX hC hR h) gm_X7_type gw_494 ⟨rfl, rfl, by decide, by decide⟩ ⟨Nat.zero_le _, Nat.zero_le _⟩ pm_o pm_o fst_X7 rfl rfl rfl rfl rfl (Nat.le_of_ble_eq_true rfl) dL_type_4 (fun H locs hP hD hS => ?_)
  refine lv_i2l (v := (r : Int32).toInt64) hx hb dL_type_7 rfl ?_
  refine va_last hx hb hK.1 hP hD hS 0 2 rfl rfl (i := 0) (vp_in_nI (n := 0) (by decide) (by decide)) dL_type_8 (fun H locs hP hD hS => ?_)
  have hP : va_P D vwCl ((ho, .inl (cL, 1, .inr (.inl (vp_updL oF 0 (r : Int32).toInt64)))) :: wX7 cI cS hh vCar' vGoa' vEag tN' tF' cN cF mP' mS kCap' kGap' kCar' kCop' kGro' kShr bN bF rCmd rLet rNum fCap fGap fCar fCop fGro fShr hX' hC' hR') H := hP
  have hD : va_D A ((ho, .inl (cL, 1, .inr (.inl (vp_updL oF 0 (r : Int32).toInt64)))) :: wX7 cI cS hh vCar' vGoa' vEag tN' tF' cN cF mP' mS kCap' kGap' kCar' kCop' kGro' kShr bN bF rCmd rLet rNum fCap fGap fCar fCop fGro fShr hX' hC' hR') := hD
  refine lv_goto (tgt := 18) hx hb dL_type_9 (by decide) ?_
  refine lv_iconst (v := 0) hx hb dL_type_18 (by decide) ?_
  exact ret_w hx hb hr hlocks hP hD hS (by decide) (by decide) dL_type_19 rfl
set_option maxRecDepth 100000 in
set_option maxHeartbeats 4000000 in
theorem t1_L_type (l : Launch) (hlt : l.stackTraces = false) (D : va_G) (cI cS cL : ClassId) (Z : Nat) (hh : Nat → Nat) (ho : Nat) (p1 : Int32) (vCar : Int32) (vGoa : Int32) (vEag : Int32) (tN : Int32) (tF : Nat → Int32) (cN : Int32) (cF : Nat → Int32) (mP : Nat → Int32) (mS : Nat → Int32) (kCap : Int32) (kGap : Int32) (kCar : Int32) (kCop : Int32) (kGro : Int32) (kShr : Int32) (bN : Int32) (bF : Nat → Int32) (rCmd : Int32) (rLet : Int32) (rNum : Int32) (fCap : Int32) (fGap : Int32) (fCar : Int32) (fCop : Int32) (fGro : Int32) (fShr : Int32) (hX : Int32) (hC : Int32) (hR : Nat → StT) (oF : Nat → Int64)  (h : f_X7_type Z p1 vCar vGoa vEag tN tF cN cF mP mS kCap kGap kCar kCop kGro kShr hX hC hR = some (.inr "java/lang/IllegalArgumentException")) : CWI l yL_type cL_type 4 rw_L_type [(0, 9, 12, 13), (0, 9, 15, 15)] D cI cS cL [.ref (hh 0), .int p1, .ref ho] ((ho, .inl (cL, 1, .inr (.inl oF))) :: wX7 cI cS hh vCar vGoa vEag tN tF cN cF mP mS kCap kGap kCar kCop kGro kShr bN bF rCmd rLet rNum fCap fGap fCar fCop fGro fShr hX hC hR) ((ho, .inl (cL, 1, .inr (.inl oF))) :: wX7 cI cS hh vCar vGoa vEag tN tF cN cF mP mS kCap kGap kCar kCop kGro kShr bN bF rCmd rLet rNum fCap fGap fCar fCop fGro fShr hX hC hR) 1 := by
  refine ent_w (by decide +kernel) (Nat.le_of_ble_eq_true rfl) ?_
  intro p e s m args below meth c A ls hx hb hr hml hlocks hg hown hK hP hD hS hA hl htab hZ
  have hown : s.vm.findClass RL = some m.cls := hown
  have hl : lv_has ls 4 [(0, .ref (hh 0)), (1, .int p1), (2, .ref ho)] := hl
  have hP : va_P D vwCl ((ho, .inl (cL, 1, .inr (.inl oF))) :: wX7 cI cS hh vCar vGoa vEag tN tF cN cF mP mS kCap kGap kCar kCop kGro kShr bN bF rCmd rLet rNum fCap fGap fCar fCop fGro fShr hX hC hR) s.heap := hP
  have hD : va_D A ((ho, .inl (cL, 1, .inr (.inl oF))) :: wX7 cI cS hh vCar vGoa vEag tN tF cN cF mP mS kCap kGap kCar kCop kGro kShr bN bF rCmd rLet rNum fCap fGap fCar fCop fGro fShr hX hC hR) := hD
  refine lv_aload_n hx hb dL_type_0 rfl (lv_at hl 2 rfl) ?_
  refine lv_iconst (v := 0) hx hb dL_type_1 (by decide) ?_
  refine lv_aload_n hx hb dL_type_2 rfl (lv_at hl 0 rfl) ?_
  refine lv_iload_n hx hb dL_type_3 rfl (lv_at hl 1 rfl) ?_
  refine cX_i (As := [.int p1]) (rest := [.int 0, .ref ho]) (wc := wX7 cI cS hh vCar vGoa vEag tN tF cN cF mP mS kCap kGap kCar kCop kGro kShr bN bF rCmd rLet rNum fCap fGap fCar fCop fGro fShr hX hC hR) (wc' := wX7 cI cS hh vCar vGoa vEag tN tF cN cF mP mS kCap kGap kCar kCop kGro kShr bN bF rCmd rLet rNum fCap fGap fCar fCop fGro fShr hX hC hR) (ws' := ((ho, .inl (cL, 1, .inr (.inl oF))) :: wX7 cI cS hh vCar vGoa vEag tN tF cN cF mP mS kCap kGap kCar kCop kGro kShr bN bF rCmd rLet rNum fCap fGap fCar fCop fGro fShr hX hC hR)) hx hb hml hown hg hK hP hD hS hA hl.1 hZ (t_X7_type l hlt D cI cS cL Z hh p1 vCar vGoa vEag tN tF cN cF mP mS kCap kGap kCar kCop kGro kShr bN bF rCmd rLet rNum fCap fGap fCar fCop fGro fShr hX hC hR h) gm_X7_type gw_494 ⟨rfl, rfl, by decide, by decide⟩ ⟨by decide, by decide⟩ pm_o pm_o fst_X7 rfl rfl rfl rfl rfl (Nat.le_of_ble_eq_true rfl) dL_type_4 [] (⟨0, 9, 12, 13⟩ : ExceptionTableEntry) [(⟨0, 9, 15, 15⟩ : ExceptionTableEntry)] htab (fun z hz => nomatch hz) (by decide) (by decide) (hg _ gw_492) (kk_nest hK nw_506) (fun q9 H locs hP hD hS => ?_)
  refine lv_astore_n (lv' := [(3, .ref q9), (0, .ref (hh 0)), (1, .int p1), (2, .ref ho)]) hx hb dL_type_12 rfl hl (by decide) rfl (fun ls hl => ?_)
  refine lv_iconst (v := 1) hx hb dL_type_13 (by decide) ?_
  exact ret_w hx hb hr hlocks hP hD hS (by decide) (by decide) dL_type_14 rfl
set_option maxRecDepth 100000 in
set_option maxHeartbeats 4000000 in
theorem t2_L_type (l : Launch) (hlt : l.stackTraces = false) (D : va_G) (cI cS cL : ClassId) (Z : Nat) (hh : Nat → Nat) (ho : Nat) (p1 : Int32) (vCar : Int32) (vGoa : Int32) (vEag : Int32) (tN : Int32) (tF : Nat → Int32) (cN : Int32) (cF : Nat → Int32) (mP : Nat → Int32) (mS : Nat → Int32) (kCap : Int32) (kGap : Int32) (kCar : Int32) (kCop : Int32) (kGro : Int32) (kShr : Int32) (bN : Int32) (bF : Nat → Int32) (rCmd : Int32) (rLet : Int32) (rNum : Int32) (fCap : Int32) (fGap : Int32) (fCar : Int32) (fCop : Int32) (fGro : Int32) (fShr : Int32) (hX : Int32) (hC : Int32) (hR : Nat → StT) (oF : Nat → Int64)  (h : f_X7_type Z p1 vCar vGoa vEag tN tF cN cF mP mS kCap kGap kCar kCop kGro kShr hX hC hR = some (.inr "java/lang/IllegalStateException")) : CWI l yL_type cL_type 4 rw_L_type [(0, 9, 12, 13), (0, 9, 15, 15)] D cI cS cL [.ref (hh 0), .int p1, .ref ho] ((ho, .inl (cL, 1, .inr (.inl oF))) :: wX7 cI cS hh vCar vGoa vEag tN tF cN cF mP mS kCap kGap kCar kCop kGro kShr bN bF rCmd rLet rNum fCap fGap fCar fCop fGro fShr hX hC hR) ((ho, .inl (cL, 1, .inr (.inl oF))) :: wX7 cI cS hh vCar vGoa vEag tN tF cN cF mP mS kCap kGap kCar kCop kGro kShr bN bF rCmd rLet rNum fCap fGap fCar fCop fGro fShr hX hC hR) 2 := by
  refine ent_w (by decide +kernel) (Nat.le_of_ble_eq_true rfl) ?_
  intro p e s m args below meth c A ls hx hb hr hml hlocks hg hown hK hP hD hS hA hl htab hZ
  have hown : s.vm.findClass RL = some m.cls := hown
  have hl : lv_has ls 4 [(0, .ref (hh 0)), (1, .int p1), (2, .ref ho)] := hl
  have hP : va_P D vwCl ((ho, .inl (cL, 1, .inr (.inl oF))) :: wX7 cI cS hh vCar vGoa vEag tN tF cN cF mP mS kCap kGap kCar kCop kGro kShr bN bF rCmd rLet rNum fCap fGap fCar fCop fGro fShr hX hC hR) s.heap := hP
  have hD : va_D A ((ho, .inl (cL, 1, .inr (.inl oF))) :: wX7 cI cS hh vCar vGoa vEag tN tF cN cF mP mS kCap kGap kCar kCop kGro kShr bN bF rCmd rLet rNum fCap fGap fCar fCop fGro fShr hX hC hR) := hD
  refine lv_aload_n hx hb dL_type_0 rfl (lv_at hl 2 rfl) ?_
  refine lv_iconst (v := 0) hx hb dL_type_1 (by decide) ?_
  refine lv_aload_n hx hb dL_type_2 rfl (lv_at hl 0 rfl) ?_
  refine lv_iload_n hx hb dL_type_3 rfl (lv_at hl 1 rfl) ?_
  refine cX_i (As := [.int p1]) (rest := [.int 0, .ref ho]) (wc := wX7 cI cS hh vCar vGoa vEag tN tF cN cF mP mS kCap kGap kCar kCop kGro kShr bN bF rCmd rLet rNum fCap fGap fCar fCop fGro fShr hX hC hR) (wc' := wX7 cI cS hh vCar vGoa vEag tN tF cN cF mP mS kCap kGap kCar kCop kGro kShr bN bF rCmd rLet rNum fCap fGap fCar fCop fGro fShr hX hC hR) (ws' := ((ho, .inl (cL, 1, .inr (.inl oF))) :: wX7 cI cS hh vCar vGoa vEag tN tF cN cF mP mS kCap kGap kCar kCop kGro kShr bN bF rCmd rLet rNum fCap fGap fCar fCop fGro fShr hX hC hR)) hx hb hml hown hg hK hP hD hS hA hl.1 hZ (t_X7_type l hlt D cI cS cL Z hh p1 vCar vGoa vEag tN tF cN cF mP mS kCap kGap kCar kCop kGro kShr bN bF rCmd rLet rNum fCap fGap fCar fCop fGro fShr hX hC hR h) gm_X7_type gw_494 ⟨rfl, rfl, by decide, by decide⟩ ⟨by decide, by decide⟩ pm_o pm_o fst_X7 rfl rfl rfl rfl rfl (Nat.le_of_ble_eq_true rfl) dL_type_4 [(⟨0, 9, 12, 13⟩ : ExceptionTableEntry)] (⟨0, 9, 15, 15⟩ : ExceptionTableEntry) [] htab (fun z hz => by cases List.mem_singleton.mp hz; exact Or.inr ⟨by decide, _, hg _ gw_492, hK.2.2.1⟩) (by decide) (by decide) (hg _ gw_493) (kk_nest hK nw_576) (fun q9 H locs hP hD hS => ?_)
  refine lv_astore_n (lv' := [(3, .ref q9), (0, .ref (hh 0)), (1, .int p1), (2, .ref ho)]) hx hb dL_type_15 rfl hl (by decide) rfl (fun ls hl => ?_)
  refine lv_iconst (v := 2) hx hb dL_type_16 (by decide) ?_
  exact ret_w hx hb hr hlocks hP hD hS (by decide) (by decide) dL_type_17 rfl
abbrev rw_L_undo : Room := { frames := 8, cells := 1, slots := 6, locals := 127 }
set_option maxRecDepth 100000 in
set_option maxHeartbeats 4000000 in
theorem k_L_undo (l : Launch) (D : va_G) (cI cS cL : ClassId) (Z : Nat) (hh : Nat → Nat) (ho : Nat)  (vCar : Int32) (vGoa : Int32) (vEag : Int32) (tN : Int32) (tF : Nat → Int32) (cN : Int32) (cF : Nat → Int32) (mP : Nat → Int32) (mS : Nat → Int32) (kCap : Int32) (kGap : Int32) (kCar : Int32) (kCop : Int32) (kGro : Int32) (kShr : Int32) (bN : Int32) (bF : Nat → Int32) (rCmd : Int32) (rLet : Int32) (rNum : Int32) (fCap : Int32) (fGap : Int32) (fCar : Int32) (fCop : Int32) (fGro : Int32) (fShr : Int32) (hX : Int32) (hC : Int32) (hR : Nat → StT) (oF : Nat → Int64) {r : Int32} {vCar' : Int32} {vGoa' : Int32} {vEag' : Int32} {tN' : Int32} {tF' : Nat → Int32} {cN' : Int32} {cF' : Nat → Int32} {mP' : Nat → Int32} {mS' : Nat → Int32} {kCap' : Int32} {kGap' : Int32} {kCar' : Int32} {kCop' : Int32} {kGro' : Int32} {kShr' : Int32} {hX' : Int32} {hC' : Int32} (h : f_X7_undo Z vCar vGoa vEag tN tF cN cF mP mS kCap kGap kCar kCop kGro kShr hX hC hR = some (.inl (r, vCar', vGoa', vEag', tN', tF', cN', cF', mP', mS', kCap', kGap', kCar', kCop', kGro', kShr', hX', hC'))) : CWI l yL_undo cL_undo 3 rw_L_undo [(0, 8, 11, 15)] D cI cS cL [.ref (hh 0), .ref ho] ((ho, .inl (cL, 1, .inr (.inl oF))) :: wX7 cI cS hh vCar vGoa vEag tN tF cN cF mP mS kCap kGap kCar kCop kGro kShr bN bF rCmd rLet rNum fCap fGap fCar fCop fGro fShr hX hC hR) ((ho, .inl (cL, 1, .inr (.inl (vp_updL oF 0 (r : Int32).toInt64)))) :: wX7 cI cS hh vCar' vGoa' vEag' tN' tF' cN' cF' mP' mS' kCap' kGap' kCar' kCop' kGro' kShr' bN bF rCmd rLet rNum fCap fGap fCar fCop fGro fShr hX' hC' hR) 0 := by
  refine ent_w (by decide +kernel) (Nat.le_of_ble_eq_true rfl) ?_
  intro p e s m args below meth c A ls hx hb hr hml hlocks hg hown hK hP hD hS hA hl htab hZ
  have hown : s.vm.findClass RL = some m.cls := hown
  have hl : lv_has ls 3 [(0, .ref (hh 0)), (1, .ref ho)] := hl
  have hP : va_P D vwCl ((ho, .inl (cL, 1, .inr (.inl oF))) :: wX7 cI cS hh vCar vGoa vEag tN tF cN cF mP mS kCap kGap kCar kCop kGro kShr bN bF rCmd rLet rNum fCap fGap fCar fCop fGro fShr hX hC hR) s.heap := hP
  have hD : va_D A ((ho, .inl (cL, 1, .inr (.inl oF))) :: wX7 cI cS hh vCar vGoa vEag tN tF cN cF mP mS kCap kGap kCar kCop kGro kShr bN bF rCmd rLet rNum fCap fGap fCar fCop fGro fShr hX hC hR) := hD
  refine lv_aload_n hx hb dL_undo_0 rfl (lv_at hl 1 rfl) ?_
  refine lv_iconst (v := 0) hx hb dL_undo_1 (by decide) ?_
  refine lv_aload_n hx hb dL_undo_2 rfl (lv_at hl 0 rfl) ?_
  refine cP_i (As := []) (rest := [.int 0, .ref ho]) (wc := wX7 cI cS hh vCar vGoa vEag tN tF cN cF mP mS kCap kGap kCar kCop kGro kShr bN bF rCmd rLet rNum fCap fGap fCar fCop fGro fShr hX hC hR) (wc' := wX7 cI cS hh vCar' vGoa' vEag' tN' tF' cN' cF' mP' mS' kCap' kGap' kCar' kCop' kGro' kShr' bN bF rCmd rLet rNum fCap fGap fCar fCop fGro fShr hX' hC' hR) (ws' := ((ho, .inl (cL, 1, .inr (.inl oF))) :: wX7 cI cS hh vCar' vGoa' vEag' tN' tF' cN' cF' mP' mS' kCap' kGap' kCar' kCop' kGro' kShr' bN bF rCmd rLet rNum fCap fGap fCar fCop fGro fShr hX' hC' hR)) hx hb hml hown hg hK hP hD hS hA hl.1 (k_X7_undo l D cI cS cL Z hh vCar vGoa vEag tN tF cN cF mP mS kCap kGap kCar kCop kGro kShr bN bF rCmd rLet rNum fCap fGap fCar fCop fGro fShr hX hC hR h) gm_X7_undo gw_926 ⟨rfl, rfl, by decide, by decide⟩ ⟨Nat.zero_le _, Nat.zero_le _⟩ pm_o pm_o fst_X7 rfl rfl rfl rfl rfl (Nat.le_of_ble_eq_true rfl) dL_undo_3 (fun H locs hP hD hS => ?_)
  refine lv_i2l (v := (r : Int32).toInt64) hx hb dL_undo_6 rfl ?_
  refine va_last hx hb hK.1 hP hD hS 0 2 rfl rfl (i := 0) (vp_in_nI (n := 0) (by decide) (by decide)) dL_undo_7 (fun H locs hP hD hS => ?_)
  have hP : va_P D vwCl ((ho, .inl (cL, 1, .inr (.inl (vp_updL oF 0 (r : Int32).toInt64)))) :: wX7 cI cS hh vCar' vGoa' vEag' tN' tF' cN' cF' mP' mS' kCap' kGap' kCar' kCop' kGro' kShr' bN bF rCmd rLet rNum fCap fGap fCar fCop fGro fShr hX' hC' hR) H := hP
  have hD : va_D A ((ho, .inl (cL, 1, .inr (.inl (vp_updL oF 0 (r : Int32).toInt64)))) :: wX7 cI cS hh vCar' vGoa' vEag' tN' tF' cN' cF' mP' mS' kCap' kGap' kCar' kCop' kGro' kShr' bN bF rCmd rLet rNum fCap fGap fCar fCop fGro fShr hX' hC' hR) := hD
  refine lv_goto (tgt := 14) hx hb dL_undo_8 (by decide) ?_
  refine lv_iconst (v := 0) hx hb dL_undo_14 (by decide) ?_
  exact ret_w hx hb hr hlocks hP hD hS (by decide) (by decide) dL_undo_15 rfl
set_option maxRecDepth 100000 in
set_option maxHeartbeats 4000000 in
theorem t1_L_undo (l : Launch) (hlt : l.stackTraces = false) (D : va_G) (cI cS cL : ClassId) (Z : Nat) (hh : Nat → Nat) (ho : Nat)  (vCar : Int32) (vGoa : Int32) (vEag : Int32) (tN : Int32) (tF : Nat → Int32) (cN : Int32) (cF : Nat → Int32) (mP : Nat → Int32) (mS : Nat → Int32) (kCap : Int32) (kGap : Int32) (kCar : Int32) (kCop : Int32) (kGro : Int32) (kShr : Int32) (bN : Int32) (bF : Nat → Int32) (rCmd : Int32) (rLet : Int32) (rNum : Int32) (fCap : Int32) (fGap : Int32) (fCar : Int32) (fCop : Int32) (fGro : Int32) (fShr : Int32) (hX : Int32) (hC : Int32) (hR : Nat → StT) (oF : Nat → Int64)  (h : f_X7_undo Z vCar vGoa vEag tN tF cN cF mP mS kCap kGap kCar kCop kGro kShr hX hC hR = some (.inr "java/lang/IllegalStateException")) : CWI l yL_undo cL_undo 3 rw_L_undo [(0, 8, 11, 15)] D cI cS cL [.ref (hh 0), .ref ho] ((ho, .inl (cL, 1, .inr (.inl oF))) :: wX7 cI cS hh vCar vGoa vEag tN tF cN cF mP mS kCap kGap kCar kCop kGro kShr bN bF rCmd rLet rNum fCap fGap fCar fCop fGro fShr hX hC hR) ((ho, .inl (cL, 1, .inr (.inl oF))) :: wX7 cI cS hh vCar vGoa vEag tN tF cN cF mP mS kCap kGap kCar kCop kGro kShr bN bF rCmd rLet rNum fCap fGap fCar fCop fGro fShr hX hC hR) 1 := by
  refine ent_w (by decide +kernel) (Nat.le_of_ble_eq_true rfl) ?_
  intro p e s m args below meth c A ls hx hb hr hml hlocks hg hown hK hP hD hS hA hl htab hZ
  have hown : s.vm.findClass RL = some m.cls := hown
  have hl : lv_has ls 3 [(0, .ref (hh 0)), (1, .ref ho)] := hl
  have hP : va_P D vwCl ((ho, .inl (cL, 1, .inr (.inl oF))) :: wX7 cI cS hh vCar vGoa vEag tN tF cN cF mP mS kCap kGap kCar kCop kGro kShr bN bF rCmd rLet rNum fCap fGap fCar fCop fGro fShr hX hC hR) s.heap := hP
  have hD : va_D A ((ho, .inl (cL, 1, .inr (.inl oF))) :: wX7 cI cS hh vCar vGoa vEag tN tF cN cF mP mS kCap kGap kCar kCop kGro kShr bN bF rCmd rLet rNum fCap fGap fCar fCop fGro fShr hX hC hR) := hD
  refine lv_aload_n hx hb dL_undo_0 rfl (lv_at hl 1 rfl) ?_
  refine lv_iconst (v := 0) hx hb dL_undo_1 (by decide) ?_
  refine lv_aload_n hx hb dL_undo_2 rfl (lv_at hl 0 rfl) ?_
  refine cX_i (As := []) (rest := [.int 0, .ref ho]) (wc := wX7 cI cS hh vCar vGoa vEag tN tF cN cF mP mS kCap kGap kCar kCop kGro kShr bN bF rCmd rLet rNum fCap fGap fCar fCop fGro fShr hX hC hR) (wc' := wX7 cI cS hh vCar vGoa vEag tN tF cN cF mP mS kCap kGap kCar kCop kGro kShr bN bF rCmd rLet rNum fCap fGap fCar fCop fGro fShr hX hC hR) (ws' := ((ho, .inl (cL, 1, .inr (.inl oF))) :: wX7 cI cS hh vCar vGoa vEag tN tF cN cF mP mS kCap kGap kCar kCop kGro kShr bN bF rCmd rLet rNum fCap fGap fCar fCop fGro fShr hX hC hR)) hx hb hml hown hg hK hP hD hS hA hl.1 hZ (t_X7_undo l hlt D cI cS cL Z hh vCar vGoa vEag tN tF cN cF mP mS kCap kGap kCar kCop kGro kShr bN bF rCmd rLet rNum fCap fGap fCar fCop fGro fShr hX hC hR h) gm_X7_undo gw_926 ⟨rfl, rfl, by decide, by decide⟩ ⟨by decide, by decide⟩ pm_o pm_o fst_X7 rfl rfl rfl rfl rfl (Nat.le_of_ble_eq_true rfl) dL_undo_3 [] (⟨0, 8, 11, 15⟩ : ExceptionTableEntry) [] htab (fun z hz => nomatch hz) (by decide) (by decide) (hg _ gw_493) (kk_nest hK nw_576) (fun q9 H locs hP hD hS => ?_)
  refine lv_astore_n (lv' := [(2, .ref q9), (0, .ref (hh 0)), (1, .ref ho)]) hx hb dL_undo_11 rfl hl (by decide) rfl (fun ls hl => ?_)
  refine lv_iconst (v := 1) hx hb dL_undo_12 (by decide) ?_
  exact ret_w hx hb hr hlocks hP hD hS (by decide) (by decide) dL_undo_13 rfl
