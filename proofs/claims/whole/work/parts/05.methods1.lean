set_option maxRecDepth 20000 in
theorem smo_X10_nextPlace : smMok smd_X10_nextPlace := smMok_s 491 45 490 (by decide +kernel) rfl (by decide +kernel) (by decide +kernel) rfl rfl (by decide +kernel) (by decide +kernel) (by decide +kernel) rfl (by decide +kernel)
set_option maxRecDepth 20000 in
theorem smo_X10_heightBehind : smMok smd_X10_heightBehind := smMok_s 494 45 493 (by decide +kernel) rfl (by decide +kernel) (by decide +kernel) rfl rfl (by decide +kernel) (by decide +kernel) (by decide +kernel) rfl (by decide +kernel)
set_option maxRecDepth 20000 in
theorem smo_X10_isCatchable : smMok smd_X10_isCatchable := smMok_s 504 45 503 (by decide +kernel) rfl (by decide +kernel) (by decide +kernel) rfl rfl (by decide +kernel) (by decide +kernel) (by decide +kernel) rfl (by decide +kernel)
set_option maxRecDepth 20000 in
theorem smo_X2_go : smMok smd_X2_go := smMok_v 594 53 592 593 (by decide +kernel) rfl (by decide +kernel) (by decide +kernel) rfl rfl (by decide +kernel) (by decide +kernel) (by decide +kernel) (by decide +kernel) (by decide +kernel) (by decide +kernel) (by decide +kernel)
set_option maxRecDepth 20000 in
theorem smo_X2_isCaughtBy : smMok smd_X2_isCaughtBy := smMok_v 615 53 613 614 (by decide +kernel) rfl (by decide +kernel) (by decide +kernel) rfl rfl (by decide +kernel) (by decide +kernel) (by decide +kernel) (by decide +kernel) (by decide +kernel) (by decide +kernel) (by decide +kernel)
set_option maxRecDepth 20000 in
theorem smo_X0_noteThrow : smMok smd_X0_noteThrow := smMok_v 619 54 618 6 (by decide +kernel) rfl (by decide +kernel) (by decide +kernel) rfl rfl (by decide +kernel) (by decide +kernel) (by decide +kernel) (by decide +kernel) (by decide +kernel) (by decide +kernel) (by decide +kernel)
set_option maxRecDepth 20000 in
theorem smo_X0_noteHedges : smMok smd_X0_noteHedges := smMok_v 624 54 623 7 (by decide +kernel) rfl (by decide +kernel) (by decide +kernel) rfl rfl (by decide +kernel) (by decide +kernel) (by decide +kernel) (by decide +kernel) (by decide +kernel) (by decide +kernel) (by decide +kernel)
set_option maxRecDepth 20000 in
theorem smo_X0_search : smMok smd_X0_search := smMok_v 609 54 607 608 (by decide +kernel) rfl (by decide +kernel) (by decide +kernel) rfl rfl (by decide +kernel) (by decide +kernel) (by decide +kernel) (by decide +kernel) (by decide +kernel) (by decide +kernel) (by decide +kernel)
set_option maxRecDepth 20000 in
theorem smo_X0_lowestNeed : smMok smd_X0_lowestNeed := smMok_v 655 54 653 654 (by decide +kernel) rfl (by decide +kernel) (by decide +kernel) rfl rfl (by decide +kernel) (by decide +kernel) (by decide +kernel) (by decide +kernel) (by decide +kernel) (by decide +kernel) (by decide +kernel)
set_option maxRecDepth 20000 in
theorem smo_X0_tellThrow : smMok smd_X0_tellThrow := smMok_s 634 54 633 (by decide +kernel) rfl (by decide +kernel) (by decide +kernel) rfl rfl (by decide +kernel) (by decide +kernel) (by decide +kernel) rfl (by decide +kernel)
set_option maxRecDepth 20000 in
theorem smo_X0_tellBest : smMok smd_X0_tellBest := smMok_v 631 54 629 630 (by decide +kernel) rfl (by decide +kernel) (by decide +kernel) rfl rfl (by decide +kernel) (by decide +kernel) (by decide +kernel) (by decide +kernel) (by decide +kernel) (by decide +kernel) (by decide +kernel)
set_option maxRecDepth 20000 in
theorem smo_X1_takeFrom : smMok smd_X1_takeFrom := smMok_v 471 48 469 470 (by decide +kernel) rfl (by decide +kernel) (by decide +kernel) rfl rfl (by decide +kernel) (by decide +kernel) (by decide +kernel) (by decide +kernel) (by decide +kernel) (by decide +kernel) (by decide +kernel)
set_option maxRecDepth 20000 in
theorem smo_X1_add : smMok smd_X1_add := smMok_v 533 48 531 532 (by decide +kernel) rfl (by decide +kernel) (by decide +kernel) rfl rfl (by decide +kernel) (by decide +kernel) (by decide +kernel) (by decide +kernel) (by decide +kernel) (by decide +kernel) (by decide +kernel)
set_option maxRecDepth 20000 in
theorem smo_X1_moveOn : smMok smd_X1_moveOn := smMok_v 488 48 486 487 (by decide +kernel) rfl (by decide +kernel) (by decide +kernel) rfl rfl (by decide +kernel) (by decide +kernel) (by decide +kernel) (by decide +kernel) (by decide +kernel) (by decide +kernel) (by decide +kernel)
set_option maxRecDepth 20000 in
theorem smo_X1_moveStone : smMok smd_X1_moveStone := smMok_v 512 48 510 511 (by decide +kernel) rfl (by decide +kernel) (by decide +kernel) rfl rfl (by decide +kernel) (by decide +kernel) (by decide +kernel) (by decide +kernel) (by decide +kernel) (by decide +kernel) (by decide +kernel)
set_option maxRecDepth 20000 in
theorem smo_X1_countAt : smMok smd_X1_countAt := smMok_v 570 48 568 569 (by decide +kernel) rfl (by decide +kernel) (by decide +kernel) rfl rfl (by decide +kernel) (by decide +kernel) (by decide +kernel) (by decide +kernel) (by decide +kernel) (by decide +kernel) (by decide +kernel)
set_option maxRecDepth 20000 in
theorem smo_X1_tellStone : smMok smd_X1_tellStone := smMok_v 578 48 576 577 (by decide +kernel) rfl (by decide +kernel) (by decide +kernel) rfl rfl (by decide +kernel) (by decide +kernel) (by decide +kernel) (by decide +kernel) (by decide +kernel) (by decide +kernel) (by decide +kernel)
set_option maxRecDepth 20000 in
theorem smo_X1_fallingBits : smMok smd_X1_fallingBits := smMok_v 520 48 518 519 (by decide +kernel) rfl (by decide +kernel) (by decide +kernel) rfl rfl (by decide +kernel) (by decide +kernel) (by decide +kernel) (by decide +kernel) (by decide +kernel) (by decide +kernel) (by decide +kernel)
set_option maxRecDepth 20000 in
theorem smo_X2_isLowAt : smMok smd_X2_isLowAt := smMok_v 749 53 747 748 (by decide +kernel) rfl (by decide +kernel) (by decide +kernel) rfl rfl (by decide +kernel) (by decide +kernel) (by decide +kernel) (by decide +kernel) (by decide +kernel) (by decide +kernel) (by decide +kernel)
set_option maxRecDepth 20000 in
theorem smo_X2_tellEnd : smMok smd_X2_tellEnd := smMok_v 601 53 599 600 (by decide +kernel) rfl (by decide +kernel) (by decide +kernel) rfl rfl (by decide +kernel) (by decide +kernel) (by decide +kernel) (by decide +kernel) (by decide +kernel) (by decide +kernel) (by decide +kernel)
set_option maxRecDepth 20000 in
theorem smo_X9_takeFrom : smMok smd_X9_takeFrom := smMok_v 464 47 462 463 (by decide +kernel) rfl (by decide +kernel) (by decide +kernel) rfl rfl (by decide +kernel) (by decide +kernel) (by decide +kernel) (by decide +kernel) (by decide +kernel) (by decide +kernel) (by decide +kernel)
set_option maxRecDepth 20000 in
theorem smo_X8_takeFrom : smMok smd_X8_takeFrom := smMok_v 853 49 851 852 (by decide +kernel) rfl (by decide +kernel) (by decide +kernel) rfl rfl (by decide +kernel) (by decide +kernel) (by decide +kernel) (by decide +kernel) (by decide +kernel) (by decide +kernel) (by decide +kernel)
set_option maxRecDepth 20000 in
theorem smo_X7_takeFrom : smMok smd_X7_takeFrom := smMok_v 858 50 856 857 (by decide +kernel) rfl (by decide +kernel) (by decide +kernel) rfl rfl (by decide +kernel) (by decide +kernel) (by decide +kernel) (by decide +kernel) (by decide +kernel) (by decide +kernel) (by decide +kernel)
set_option maxRecDepth 20000 in
theorem smo_X3_takeFrom : smMok smd_X3_takeFrom := smMok_v 848 46 846 847 (by decide +kernel) rfl (by decide +kernel) (by decide +kernel) rfl rfl (by decide +kernel) (by decide +kernel) (by decide +kernel) (by decide +kernel) (by decide +kernel) (by decide +kernel) (by decide +kernel)
set_option maxRecDepth 20000 in
theorem smo_X8_fly : smMok smd_X8_fly := smMok_v 709 49 707 708 (by decide +kernel) rfl (by decide +kernel) (by decide +kernel) rfl rfl (by decide +kernel) (by decide +kernel) (by decide +kernel) (by decide +kernel) (by decide +kernel) (by decide +kernel) (by decide +kernel)
set_option maxRecDepth 20000 in
theorem smo_X4_isInRow : smMok smd_X4_isInRow := smMok_s 717 55 716 (by decide +kernel) rfl (by decide +kernel) (by decide +kernel) rfl rfl (by decide +kernel) (by decide +kernel) (by decide +kernel) rfl (by decide +kernel)
set_option maxRecDepth 20000 in
theorem smo_X4_firstCommon : smMok smd_X4_firstCommon := smMok_s 714 55 713 (by decide +kernel) rfl (by decide +kernel) (by decide +kernel) rfl rfl (by decide +kernel) (by decide +kernel) (by decide +kernel) rfl (by decide +kernel)
set_option maxRecDepth 20000 in
theorem smo_X4_firstMeeting : smMok smd_X4_firstMeeting := smMok_v 705 55 703 704 (by decide +kernel) rfl (by decide +kernel) (by decide +kernel) rfl rfl (by decide +kernel) (by decide +kernel) (by decide +kernel) (by decide +kernel) (by decide +kernel) (by decide +kernel) (by decide +kernel)
set_option maxRecDepth 20000 in
theorem smo_X10_within : smMok smd_X10_within := smMok_s 382 45 381 (by decide +kernel) rfl (by decide +kernel) (by decide +kernel) rfl rfl (by decide +kernel) (by decide +kernel) (by decide +kernel) rfl (by decide +kernel)
set_option maxRecDepth 20000 in
theorem smo_X8_has : smMok smd_X8_has := smMok_v 696 49 694 695 (by decide +kernel) rfl (by decide +kernel) (by decide +kernel) rfl rfl (by decide +kernel) (by decide +kernel) (by decide +kernel) (by decide +kernel) (by decide +kernel) (by decide +kernel) (by decide +kernel)
set_option maxRecDepth 20000 in
theorem smo_X4_noteMeetings : smMok smd_X4_noteMeetings := smMok_v 730 55 729 11 (by decide +kernel) rfl (by decide +kernel) (by decide +kernel) rfl rfl (by decide +kernel) (by decide +kernel) (by decide +kernel) (by decide +kernel) (by decide +kernel) (by decide +kernel) (by decide +kernel)
set_option maxRecDepth 20000 in
theorem smo_J6_bitCount_0f7a4 : smMok smd_J6_bitCount_0f7a4 := smMok_s 410 57 409 (by decide +kernel) rfl (by decide +kernel) (by decide +kernel) rfl rfl (by decide +kernel) (by decide +kernel) (by decide +kernel) rfl (by decide +kernel)
set_option maxRecDepth 20000 in
theorem smo_X4_keepsApart : smMok smd_X4_keepsApart := smMok_v 737 55 736 12 (by decide +kernel) rfl (by decide +kernel) (by decide +kernel) rfl rfl (by decide +kernel) (by decide +kernel) (by decide +kernel) (by decide +kernel) (by decide +kernel) (by decide +kernel) (by decide +kernel)
set_option maxRecDepth 20000 in
theorem smo_X4_fewestForbidden : smMok smd_X4_fewestForbidden := smMok_v 726 55 724 725 (by decide +kernel) rfl (by decide +kernel) (by decide +kernel) rfl rfl (by decide +kernel) (by decide +kernel) (by decide +kernel) (by decide +kernel) (by decide +kernel) (by decide +kernel) (by decide +kernel)
set_option maxRecDepth 20000 in
theorem smo_X4_markRow : smMok smd_X4_markRow := smMok_v 753 55 752 13 (by decide +kernel) rfl (by decide +kernel) (by decide +kernel) rfl rfl (by decide +kernel) (by decide +kernel) (by decide +kernel) (by decide +kernel) (by decide +kernel) (by decide +kernel) (by decide +kernel)
set_option maxRecDepth 20000 in
theorem smo_X4_markLow : smMok smd_X4_markLow := smMok_v 745 55 743 744 (by decide +kernel) rfl (by decide +kernel) (by decide +kernel) rfl rfl (by decide +kernel) (by decide +kernel) (by decide +kernel) (by decide +kernel) (by decide +kernel) (by decide +kernel) (by decide +kernel)
set_option maxRecDepth 20000 in
theorem smo_X4_countMarks : smMok smd_X4_countMarks := smMok_v 757 55 755 756 (by decide +kernel) rfl (by decide +kernel) (by decide +kernel) rfl rfl (by decide +kernel) (by decide +kernel) (by decide +kernel) (by decide +kernel) (by decide +kernel) (by decide +kernel) (by decide +kernel)
set_option maxRecDepth 20000 in
theorem smo_X4_firstMark : smMok smd_X4_firstMark := smMok_v 761 55 759 760 (by decide +kernel) rfl (by decide +kernel) (by decide +kernel) rfl rfl (by decide +kernel) (by decide +kernel) (by decide +kernel) (by decide +kernel) (by decide +kernel) (by decide +kernel) (by decide +kernel)
set_option maxRecDepth 20000 in
theorem smo_X4_catchPlaces : smMok smd_X4_catchPlaces := smMok_v 773 55 772 14 (by decide +kernel) rfl (by decide +kernel) (by decide +kernel) rfl rfl (by decide +kernel) (by decide +kernel) (by decide +kernel) (by decide +kernel) (by decide +kernel) (by decide +kernel) (by decide +kernel)
set_option maxRecDepth 20000 in
theorem smo_X4_catchesAll : smMok smd_X4_catchesAll := smMok_v 778 55 777 15 (by decide +kernel) rfl (by decide +kernel) (by decide +kernel) rfl rfl (by decide +kernel) (by decide +kernel) (by decide +kernel) (by decide +kernel) (by decide +kernel) (by decide +kernel) (by decide +kernel)
set_option maxRecDepth 20000 in
theorem smo_X4_fewestHands : smMok smd_X4_fewestHands := smMok_v 769 55 767 768 (by decide +kernel) rfl (by decide +kernel) (by decide +kernel) rfl rfl (by decide +kernel) (by decide +kernel) (by decide +kernel) (by decide +kernel) (by decide +kernel) (by decide +kernel) (by decide +kernel)
set_option maxRecDepth 20000 in
theorem smo_X5_write : smMok smd_X5_write := smMok_v 429 51 427 428 (by decide +kernel) rfl (by decide +kernel) (by decide +kernel) rfl rfl (by decide +kernel) (by decide +kernel) (by decide +kernel) (by decide +kernel) (by decide +kernel) (by decide +kernel) (by decide +kernel)
set_option maxRecDepth 20000 in
theorem smo_X5_signAt : smMok smd_X5_signAt := smMok_v 445 51 444 0 (by decide +kernel) rfl (by decide +kernel) (by decide +kernel) rfl rfl (by decide +kernel) (by decide +kernel) (by decide +kernel) (by decide +kernel) (by decide +kernel) (by decide +kernel) (by decide +kernel)
set_option maxRecDepth 20000 in
theorem smo_X5_number : smMok smd_X5_number := smMok_s 452 51 451 (by decide +kernel) rfl (by decide +kernel) (by decide +kernel) rfl rfl (by decide +kernel) (by decide +kernel) (by decide +kernel) rfl (by decide +kernel)
set_option maxRecDepth 20000 in
theorem smo_X5_nextStage : smMok smd_X5_nextStage := smMok_s 449 51 448 (by decide +kernel) rfl (by decide +kernel) (by decide +kernel) rfl rfl (by decide +kernel) (by decide +kernel) (by decide +kernel) rfl (by decide +kernel)
set_option maxRecDepth 20000 in
theorem smo_X5_firstWrong : smMok smd_X5_firstWrong := smMok_v 441 51 439 440 (by decide +kernel) rfl (by decide +kernel) (by decide +kernel) rfl rfl (by decide +kernel) (by decide +kernel) (by decide +kernel) (by decide +kernel) (by decide +kernel) (by decide +kernel) (by decide +kernel)
set_option maxRecDepth 20000 in
theorem smo_X9_hasPerson : smMok smd_X9_hasPerson := smMok_v 421 47 419 420 (by decide +kernel) rfl (by decide +kernel) (by decide +kernel) rfl rfl (by decide +kernel) (by decide +kernel) (by decide +kernel) (by decide +kernel) (by decide +kernel) (by decide +kernel) (by decide +kernel)
set_option maxRecDepth 20000 in
theorem smo_X9_leastAt : smMok smd_X9_leastAt := smMok_v 508 47 506 507 (by decide +kernel) rfl (by decide +kernel) (by decide +kernel) rfl rfl (by decide +kernel) (by decide +kernel) (by decide +kernel) (by decide +kernel) (by decide +kernel) (by decide +kernel) (by decide +kernel)
set_option maxRecDepth 20000 in
theorem smo_X9_endInHedgesAndHands : smMok smd_X9_endInHedgesAndHands := smMok_v 501 47 500 3 (by decide +kernel) rfl (by decide +kernel) (by decide +kernel) rfl rfl (by decide +kernel) (by decide +kernel) (by decide +kernel) (by decide +kernel) (by decide +kernel) (by decide +kernel) (by decide +kernel)
set_option maxRecDepth 20000 in
theorem smo_X9_fallDown : smMok smd_X9_fallDown := smMok_v 516 47 515 4 (by decide +kernel) rfl (by decide +kernel) (by decide +kernel) rfl rfl (by decide +kernel) (by decide +kernel) (by decide +kernel) (by decide +kernel) (by decide +kernel) (by decide +kernel) (by decide +kernel)
set_option maxRecDepth 20000 in
theorem smo_X9_passMinute : smMok smd_X9_passMinute := smMok_v 484 47 482 483 (by decide +kernel) rfl (by decide +kernel) (by decide +kernel) rfl rfl (by decide +kernel) (by decide +kernel) (by decide +kernel) (by decide +kernel) (by decide +kernel) (by decide +kernel) (by decide +kernel)
set_option maxRecDepth 20000 in
theorem smo_X9_whyNoThrow : smMok smd_X9_whyNoThrow := smMok_v 528 47 526 527 (by decide +kernel) rfl (by decide +kernel) (by decide +kernel) rfl rfl (by decide +kernel) (by decide +kernel) (by decide +kernel) (by decide +kernel) (by decide +kernel) (by decide +kernel) (by decide +kernel)
set_option maxRecDepth 20000 in
theorem smo_X9_throwStone : smMok smd_X9_throwStone := smMok_v 524 47 522 523 (by decide +kernel) rfl (by decide +kernel) (by decide +kernel) rfl rfl (by decide +kernel) (by decide +kernel) (by decide +kernel) (by decide +kernel) (by decide +kernel) (by decide +kernel) (by decide +kernel)
set_option maxRecDepth 20000 in
theorem smo_X9_pickUp : smMok smd_X9_pickUp := smMok_v 537 47 535 536 (by decide +kernel) rfl (by decide +kernel) (by decide +kernel) rfl rfl (by decide +kernel) (by decide +kernel) (by decide +kernel) (by decide +kernel) (by decide +kernel) (by decide +kernel) (by decide +kernel)
set_option maxRecDepth 20000 in
theorem smo_X9_walk : smMok smd_X9_walk := smMok_v 541 47 539 540 (by decide +kernel) rfl (by decide +kernel) (by decide +kernel) rfl rfl (by decide +kernel) (by decide +kernel) (by decide +kernel) (by decide +kernel) (by decide +kernel) (by decide +kernel) (by decide +kernel)
set_option maxRecDepth 20000 in
theorem smo_X5_playEvent : smMok smd_X5_playEvent := smMok_v 480 51 479 2 (by decide +kernel) rfl (by decide +kernel) (by decide +kernel) rfl rfl (by decide +kernel) (by decide +kernel) (by decide +kernel) (by decide +kernel) (by decide +kernel) (by decide +kernel) (by decide +kernel)
set_option maxRecDepth 20000 in
theorem smo_X5_eventLength : smMok smd_X5_eventLength := smMok_v 546 51 545 5 (by decide +kernel) rfl (by decide +kernel) (by decide +kernel) rfl rfl (by decide +kernel) (by decide +kernel) (by decide +kernel) (by decide +kernel) (by decide +kernel) (by decide +kernel) (by decide +kernel)
set_option maxRecDepth 20000 in
theorem smo_X5_play : smMok smd_X5_play := smMok_v 476 51 474 475 (by decide +kernel) rfl (by decide +kernel) (by decide +kernel) rfl rfl (by decide +kernel) (by decide +kernel) (by decide +kernel) (by decide +kernel) (by decide +kernel) (by decide +kernel) (by decide +kernel)
set_option maxRecDepth 20000 in
theorem smo_X6_look : smMok smd_X6_look := smMok_v 589 52 587 588 (by decide +kernel) rfl (by decide +kernel) (by decide +kernel) rfl rfl (by decide +kernel) (by decide +kernel) (by decide +kernel) (by decide +kernel) (by decide +kernel) (by decide +kernel) (by decide +kernel)
