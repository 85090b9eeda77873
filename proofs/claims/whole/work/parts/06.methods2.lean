set_option maxRecDepth 20000 in
theorem smo_X7_note : smMok smd_X7_note := smMok_v 787 50 785 786 (by decide +kernel) rfl (by decide +kernel) (by decide +kernel) rfl rfl (by decide +kernel) (by decide +kernel) (by decide +kernel) (by decide +kernel) (by decide +kernel) (by decide +kernel) (by decide +kernel)
set_option maxRecDepth 20000 in
theorem smo_X7_fitHeights : smMok smd_X7_fitHeights := smMok_v 803 50 801 802 (by decide +kernel) rfl (by decide +kernel) (by decide +kernel) rfl rfl (by decide +kernel) (by decide +kernel) (by decide +kernel) (by decide +kernel) (by decide +kernel) (by decide +kernel) (by decide +kernel)
set_option maxRecDepth 20000 in
theorem smo_X7_fit : smMok smd_X7_fit := smMok_v 812 50 810 811 (by decide +kernel) rfl (by decide +kernel) (by decide +kernel) rfl rfl (by decide +kernel) (by decide +kernel) (by decide +kernel) (by decide +kernel) (by decide +kernel) (by decide +kernel) (by decide +kernel)
set_option maxRecDepth 20000 in
theorem smo_X8_setWay : smMok smd_X8_setWay := smMok_v 685 49 683 684 (by decide +kernel) rfl (by decide +kernel) (by decide +kernel) rfl rfl (by decide +kernel) (by decide +kernel) (by decide +kernel) (by decide +kernel) (by decide +kernel) (by decide +kernel) (by decide +kernel)
set_option maxRecDepth 20000 in
theorem smo_X8_setTimes : smMok smd_X8_setTimes := smMok_v 689 49 687 688 (by decide +kernel) rfl (by decide +kernel) (by decide +kernel) rfl rfl (by decide +kernel) (by decide +kernel) (by decide +kernel) (by decide +kernel) (by decide +kernel) (by decide +kernel) (by decide +kernel)
set_option maxRecDepth 20000 in
theorem smo_X9_begin : smMok smd_X9_begin := smMok_v 386 47 384 385 (by decide +kernel) rfl (by decide +kernel) (by decide +kernel) rfl rfl (by decide +kernel) (by decide +kernel) (by decide +kernel) (by decide +kernel) (by decide +kernel) (by decide +kernel) (by decide +kernel)
set_option maxRecDepth 20000 in
theorem smo_X9_hasPlace : smMok smd_X9_hasPlace := smMok_v 394 47 392 393 (by decide +kernel) rfl (by decide +kernel) (by decide +kernel) rfl rfl (by decide +kernel) (by decide +kernel) (by decide +kernel) (by decide +kernel) (by decide +kernel) (by decide +kernel) (by decide +kernel)
set_option maxRecDepth 20000 in
theorem smo_X9_put : smMok smd_X9_put := smMok_v 407 47 405 406 (by decide +kernel) rfl (by decide +kernel) (by decide +kernel) rfl rfl (by decide +kernel) (by decide +kernel) (by decide +kernel) (by decide +kernel) (by decide +kernel) (by decide +kernel) (by decide +kernel)
set_option maxRecDepth 20000 in
theorem smo_X9_tellPerson : smMok smd_X9_tellPerson := smMok_v 558 47 556 557 (by decide +kernel) rfl (by decide +kernel) (by decide +kernel) rfl rfl (by decide +kernel) (by decide +kernel) (by decide +kernel) (by decide +kernel) (by decide +kernel) (by decide +kernel) (by decide +kernel)
set_option maxRecDepth 20000 in
theorem smo_X9_emptyHands : smMok smd_X9_emptyHands := smMok_v 664 47 662 663 (by decide +kernel) rfl (by decide +kernel) (by decide +kernel) rfl rfl (by decide +kernel) (by decide +kernel) (by decide +kernel) (by decide +kernel) (by decide +kernel) (by decide +kernel) (by decide +kernel)
set_option maxRecDepth 20000 in
theorem smo_X9_distance : smMok smd_X9_distance := smMok_v 673 47 671 672 (by decide +kernel) rfl (by decide +kernel) (by decide +kernel) rfl rfl (by decide +kernel) (by decide +kernel) (by decide +kernel) (by decide +kernel) (by decide +kernel) (by decide +kernel) (by decide +kernel)
set_option maxRecDepth 20000 in
theorem smo_X9_lostInAll : smMok smd_X9_lostInAll := smMok_v 837 47 835 836 (by decide +kernel) rfl (by decide +kernel) (by decide +kernel) rfl rfl (by decide +kernel) (by decide +kernel) (by decide +kernel) (by decide +kernel) (by decide +kernel) (by decide +kernel) (by decide +kernel)
set_option maxRecDepth 20000 in
theorem smo_X9_drawThrow : smMok smd_X9_drawThrow := smMok_v 831 47 829 830 (by decide +kernel) rfl (by decide +kernel) (by decide +kernel) rfl rfl (by decide +kernel) (by decide +kernel) (by decide +kernel) (by decide +kernel) (by decide +kernel) (by decide +kernel) (by decide +kernel)
set_option maxRecDepth 20000 in
theorem smo_X10_places : smMok smd_X10_places := smMok_v 379 45 377 378 (by decide +kernel) rfl (by decide +kernel) (by decide +kernel) rfl rfl (by decide +kernel) (by decide +kernel) (by decide +kernel) (by decide +kernel) (by decide +kernel) (by decide +kernel) (by decide +kernel)
set_option maxRecDepth 20000 in
theorem smo_X10_hedge : smMok smd_X10_hedge := smMok_v 390 45 388 389 (by decide +kernel) rfl (by decide +kernel) (by decide +kernel) rfl rfl (by decide +kernel) (by decide +kernel) (by decide +kernel) (by decide +kernel) (by decide +kernel) (by decide +kernel) (by decide +kernel)
set_option maxRecDepth 20000 in
theorem smo_X10_lay : smMok smd_X10_lay := smMok_v 399 45 397 398 (by decide +kernel) rfl (by decide +kernel) (by decide +kernel) rfl rfl (by decide +kernel) (by decide +kernel) (by decide +kernel) (by decide +kernel) (by decide +kernel) (by decide +kernel) (by decide +kernel)
set_option maxRecDepth 20000 in
theorem smo_X10_person : smMok smd_X10_person := smMok_v 403 45 401 402 (by decide +kernel) rfl (by decide +kernel) (by decide +kernel) rfl rfl (by decide +kernel) (by decide +kernel) (by decide +kernel) (by decide +kernel) (by decide +kernel) (by decide +kernel) (by decide +kernel)
set_option maxRecDepth 20000 in
theorem smo_X10_leave : smMok smd_X10_leave := smMok_v 417 45 415 416 (by decide +kernel) rfl (by decide +kernel) (by decide +kernel) rfl rfl (by decide +kernel) (by decide +kernel) (by decide +kernel) (by decide +kernel) (by decide +kernel) (by decide +kernel) (by decide +kernel)
set_option maxRecDepth 20000 in
theorem smo_X10_say : smMok smd_X10_say := smMok_v 425 45 423 424 (by decide +kernel) rfl (by decide +kernel) (by decide +kernel) rfl rfl (by decide +kernel) (by decide +kernel) (by decide +kernel) (by decide +kernel) (by decide +kernel) (by decide +kernel) (by decide +kernel)
set_option maxRecDepth 20000 in
theorem smo_X10_wipe : smMok smd_X10_wipe := smMok_v 433 45 431 432 (by decide +kernel) rfl (by decide +kernel) (by decide +kernel) rfl rfl (by decide +kernel) (by decide +kernel) (by decide +kernel) (by decide +kernel) (by decide +kernel) (by decide +kernel) (by decide +kernel)
set_option maxRecDepth 20000 in
theorem smo_X10_fault : smMok smd_X10_fault := smMok_v 437 45 435 436 (by decide +kernel) rfl (by decide +kernel) (by decide +kernel) rfl rfl (by decide +kernel) (by decide +kernel) (by decide +kernel) (by decide +kernel) (by decide +kernel) (by decide +kernel) (by decide +kernel)
set_option maxRecDepth 20000 in
theorem smo_X10_tryDay : smMok smd_X10_tryDay := smMok_v 460 45 459 1 (by decide +kernel) rfl (by decide +kernel) (by decide +kernel) rfl rfl (by decide +kernel) (by decide +kernel) (by decide +kernel) (by decide +kernel) (by decide +kernel) (by decide +kernel) (by decide +kernel)
set_option maxRecDepth 20000 in
theorem smo_X10_judge : smMok smd_X10_judge := smMok_v 456 45 454 455 (by decide +kernel) rfl (by decide +kernel) (by decide +kernel) rfl rfl (by decide +kernel) (by decide +kernel) (by decide +kernel) (by decide +kernel) (by decide +kernel) (by decide +kernel) (by decide +kernel)
set_option maxRecDepth 20000 in
theorem smo_X10_done : smMok smd_X10_done := smMok_v 550 45 548 549 (by decide +kernel) rfl (by decide +kernel) (by decide +kernel) rfl rfl (by decide +kernel) (by decide +kernel) (by decide +kernel) (by decide +kernel) (by decide +kernel) (by decide +kernel) (by decide +kernel)
set_option maxRecDepth 20000 in
theorem smo_X10_state : smMok smd_X10_state := smMok_v 554 45 552 553 (by decide +kernel) rfl (by decide +kernel) (by decide +kernel) rfl rfl (by decide +kernel) (by decide +kernel) (by decide +kernel) (by decide +kernel) (by decide +kernel) (by decide +kernel) (by decide +kernel)
set_option maxRecDepth 20000 in
theorem smo_X10_behind : smMok smd_X10_behind := smMok_v 562 45 560 561 (by decide +kernel) rfl (by decide +kernel) (by decide +kernel) rfl rfl (by decide +kernel) (by decide +kernel) (by decide +kernel) (by decide +kernel) (by decide +kernel) (by decide +kernel) (by decide +kernel)
set_option maxRecDepth 20000 in
theorem smo_X10_stones : smMok smd_X10_stones := smMok_v 566 45 564 565 (by decide +kernel) rfl (by decide +kernel) (by decide +kernel) rfl rfl (by decide +kernel) (by decide +kernel) (by decide +kernel) (by decide +kernel) (by decide +kernel) (by decide +kernel) (by decide +kernel)
set_option maxRecDepth 20000 in
theorem smo_X10_air : smMok smd_X10_air := smMok_v 574 45 572 573 (by decide +kernel) rfl (by decide +kernel) (by decide +kernel) rfl rfl (by decide +kernel) (by decide +kernel) (by decide +kernel) (by decide +kernel) (by decide +kernel) (by decide +kernel) (by decide +kernel)
set_option maxRecDepth 20000 in
theorem smo_X10_isThrow : smMok smd_X10_isThrow := smMok_s 585 45 584 (by decide +kernel) rfl (by decide +kernel) (by decide +kernel) rfl rfl (by decide +kernel) (by decide +kernel) (by decide +kernel) rfl (by decide +kernel)
set_option maxRecDepth 20000 in
theorem smo_X10_flight : smMok smd_X10_flight := smMok_v 582 45 580 581 (by decide +kernel) rfl (by decide +kernel) (by decide +kernel) rfl rfl (by decide +kernel) (by decide +kernel) (by decide +kernel) (by decide +kernel) (by decide +kernel) (by decide +kernel) (by decide +kernel)
set_option maxRecDepth 20000 in
theorem smo_X10_gets : smMok smd_X10_gets := smMok_v 605 45 603 604 (by decide +kernel) rfl (by decide +kernel) (by decide +kernel) rfl rfl (by decide +kernel) (by decide +kernel) (by decide +kernel) (by decide +kernel) (by decide +kernel) (by decide +kernel) (by decide +kernel)
set_option maxRecDepth 20000 in
theorem smo_X10_goesTo : smMok smd_X10_goesTo := smMok_v 647 45 646 9 (by decide +kernel) rfl (by decide +kernel) (by decide +kernel) rfl rfl (by decide +kernel) (by decide +kernel) (by decide +kernel) (by decide +kernel) (by decide +kernel) (by decide +kernel) (by decide +kernel)
set_option maxRecDepth 20000 in
theorem smo_X10_comesRound : smMok smd_X10_comesRound := smMok_v 643 45 642 8 (by decide +kernel) rfl (by decide +kernel) (by decide +kernel) rfl rfl (by decide +kernel) (by decide +kernel) (by decide +kernel) (by decide +kernel) (by decide +kernel) (by decide +kernel) (by decide +kernel)
set_option maxRecDepth 20000 in
theorem smo_X10_round : smMok smd_X10_round := smMok_v 639 45 637 638 (by decide +kernel) rfl (by decide +kernel) (by decide +kernel) rfl rfl (by decide +kernel) (by decide +kernel) (by decide +kernel) (by decide +kernel) (by decide +kernel) (by decide +kernel) (by decide +kernel)
set_option maxRecDepth 20000 in
theorem smo_X10_keptOff : smMok smd_X10_keptOff := smMok_v 652 45 650 651 (by decide +kernel) rfl (by decide +kernel) (by decide +kernel) rfl rfl (by decide +kernel) (by decide +kernel) (by decide +kernel) (by decide +kernel) (by decide +kernel) (by decide +kernel) (by decide +kernel)
set_option maxRecDepth 20000 in
theorem smo_X10_offerStone : smMok smd_X10_offerStone := smMok_v 669 45 668 10 (by decide +kernel) rfl (by decide +kernel) (by decide +kernel) rfl rfl (by decide +kernel) (by decide +kernel) (by decide +kernel) (by decide +kernel) (by decide +kernel) (by decide +kernel) (by decide +kernel)
set_option maxRecDepth 20000 in
theorem smo_X10_laid : smMok smd_X10_laid := smMok_v 660 45 658 659 (by decide +kernel) rfl (by decide +kernel) (by decide +kernel) rfl rfl (by decide +kernel) (by decide +kernel) (by decide +kernel) (by decide +kernel) (by decide +kernel) (by decide +kernel) (by decide +kernel)
set_option maxRecDepth 20000 in
theorem smo_X10_list : smMok smd_X10_list := smMok_v 681 45 679 680 (by decide +kernel) rfl (by decide +kernel) (by decide +kernel) rfl rfl (by decide +kernel) (by decide +kernel) (by decide +kernel) (by decide +kernel) (by decide +kernel) (by decide +kernel) (by decide +kernel)
set_option maxRecDepth 20000 in
theorem smo_X10_strike : smMok smd_X10_strike := smMok_v 693 45 691 692 (by decide +kernel) rfl (by decide +kernel) (by decide +kernel) rfl rfl (by decide +kernel) (by decide +kernel) (by decide +kernel) (by decide +kernel) (by decide +kernel) (by decide +kernel) (by decide +kernel)
set_option maxRecDepth 20000 in
theorem smo_X10_meet : smMok smd_X10_meet := smMok_v 702 45 700 701 (by decide +kernel) rfl (by decide +kernel) (by decide +kernel) rfl rfl (by decide +kernel) (by decide +kernel) (by decide +kernel) (by decide +kernel) (by decide +kernel) (by decide +kernel) (by decide +kernel)
set_option maxRecDepth 20000 in
theorem smo_X10_forbidden : smMok smd_X10_forbidden := smMok_v 723 45 721 722 (by decide +kernel) rfl (by decide +kernel) (by decide +kernel) rfl rfl (by decide +kernel) (by decide +kernel) (by decide +kernel) (by decide +kernel) (by decide +kernel) (by decide +kernel) (by decide +kernel)
set_option maxRecDepth 20000 in
theorem smo_X10_duck : smMok smd_X10_duck := smMok_v 742 45 740 741 (by decide +kernel) rfl (by decide +kernel) (by decide +kernel) rfl rfl (by decide +kernel) (by decide +kernel) (by decide +kernel) (by decide +kernel) (by decide +kernel) (by decide +kernel) (by decide +kernel)
set_option maxRecDepth 20000 in
theorem smo_X10_hands : smMok smd_X10_hands := smMok_v 766 45 764 765 (by decide +kernel) rfl (by decide +kernel) (by decide +kernel) rfl rfl (by decide +kernel) (by decide +kernel) (by decide +kernel) (by decide +kernel) (by decide +kernel) (by decide +kernel) (by decide +kernel)
set_option maxRecDepth 20000 in
theorem smo_X10_seen : smMok smd_X10_seen := smMok_v 783 45 781 782 (by decide +kernel) rfl (by decide +kernel) (by decide +kernel) rfl rfl (by decide +kernel) (by decide +kernel) (by decide +kernel) (by decide +kernel) (by decide +kernel) (by decide +kernel) (by decide +kernel)
set_option maxRecDepth 20000 in
theorem smo_X10_forget : smMok smd_X10_forget := smMok_v 791 45 789 790 (by decide +kernel) rfl (by decide +kernel) (by decide +kernel) rfl rfl (by decide +kernel) (by decide +kernel) (by decide +kernel) (by decide +kernel) (by decide +kernel) (by decide +kernel) (by decide +kernel)
set_option maxRecDepth 20000 in
theorem smo_X10_fitsSights : smMok smd_X10_fitsSights := smMok_v 808 45 807 17 (by decide +kernel) rfl (by decide +kernel) (by decide +kernel) rfl rfl (by decide +kernel) (by decide +kernel) (by decide +kernel) (by decide +kernel) (by decide +kernel) (by decide +kernel) (by decide +kernel)
set_option maxRecDepth 20000 in
theorem smo_X10_fittingThrows : smMok smd_X10_fittingThrows := smMok_v 799 45 798 16 (by decide +kernel) rfl (by decide +kernel) (by decide +kernel) rfl rfl (by decide +kernel) (by decide +kernel) (by decide +kernel) (by decide +kernel) (by decide +kernel) (by decide +kernel) (by decide +kernel)
set_option maxRecDepth 20000 in
theorem smo_X10_who : smMok smd_X10_who := smMok_v 795 45 793 794 (by decide +kernel) rfl (by decide +kernel) (by decide +kernel) rfl rfl (by decide +kernel) (by decide +kernel) (by decide +kernel) (by decide +kernel) (by decide +kernel) (by decide +kernel) (by decide +kernel)
set_option maxRecDepth 20000 in
theorem smo_X10_sharedWithTen : smMok smd_X10_sharedWithTen := smMok_s 822 45 821 (by decide +kernel) rfl (by decide +kernel) (by decide +kernel) rfl rfl (by decide +kernel) (by decide +kernel) (by decide +kernel) rfl (by decide +kernel)
set_option maxRecDepth 20000 in
theorem smo_X10_slips : smMok smd_X10_slips := smMok_v 816 45 814 815 (by decide +kernel) rfl (by decide +kernel) (by decide +kernel) rfl rfl (by decide +kernel) (by decide +kernel) (by decide +kernel) (by decide +kernel) (by decide +kernel) (by decide +kernel) (by decide +kernel)
set_option maxRecDepth 20000 in
theorem smo_X10_year : smMok smd_X10_year := smMok_v 826 45 824 825 (by decide +kernel) rfl (by decide +kernel) (by decide +kernel) rfl rfl (by decide +kernel) (by decide +kernel) (by decide +kernel) (by decide +kernel) (by decide +kernel) (by decide +kernel) (by decide +kernel)
set_option maxRecDepth 20000 in
theorem smo_X10_imageOf : smMok smd_X10_imageOf := smMok_v 845 45 844 18 (by decide +kernel) rfl (by decide +kernel) (by decide +kernel) rfl rfl (by decide +kernel) (by decide +kernel) (by decide +kernel) (by decide +kernel) (by decide +kernel) (by decide +kernel) (by decide +kernel)
set_option maxRecDepth 20000 in
theorem smo_X10_image : smMok smd_X10_image := smMok_v 841 45 839 840 (by decide +kernel) rfl (by decide +kernel) (by decide +kernel) rfl rfl (by decide +kernel) (by decide +kernel) (by decide +kernel) (by decide +kernel) (by decide +kernel) (by decide +kernel) (by decide +kernel)
set_option maxRecDepth 20000 in
theorem smo_X10_restore : smMok smd_X10_restore := smMok_v 864 45 862 863 (by decide +kernel) rfl (by decide +kernel) (by decide +kernel) rfl rfl (by decide +kernel) (by decide +kernel) (by decide +kernel) (by decide +kernel) (by decide +kernel) (by decide +kernel) (by decide +kernel)
set_option maxRecDepth 20000 in
theorem smo_X10_told : smMok smd_X10_told := smMok_v 868 45 866 867 (by decide +kernel) rfl (by decide +kernel) (by decide +kernel) rfl rfl (by decide +kernel) (by decide +kernel) (by decide +kernel) (by decide +kernel) (by decide +kernel) (by decide +kernel) (by decide +kernel)
