theorem d_Md_init_521 : decode prog_14_method_1_code 521 = .ok (.bipush 86, 2) := by decide +kernel
theorem d_Md_init_523 : decode prog_14_method_1_code 523 = .ok (.bipush 18, 2) := by decide +kernel
theorem d_Md_init_525 : decode prog_14_method_1_code 525 = .ok (.iastore, 1) := by decide +kernel
theorem d_Md_init_526 : decode prog_14_method_1_code 526 = .ok (.dup, 1) := by decide +kernel
theorem d_Md_init_527 : decode prog_14_method_1_code 527 = .ok (.bipush 87, 2) := by decide +kernel
theorem d_Md_init_529 : decode prog_14_method_1_code 529 = .ok (.bipush 22, 2) := by decide +kernel
theorem d_Md_init_531 : decode prog_14_method_1_code 531 = .ok (.iastore, 1) := by decide +kernel
theorem d_Md_init_532 : decode prog_14_method_1_code 532 = .ok (.dup, 1) := by decide +kernel
theorem d_Md_init_533 : decode prog_14_method_1_code 533 = .ok (.bipush 88, 2) := by decide +kernel
theorem d_Md_init_535 : decode prog_14_method_1_code 535 = .ok (.bipush 20, 2) := by decide +kernel
theorem d_Md_init_537 : decode prog_14_method_1_code 537 = .ok (.iastore, 1) := by decide +kernel
theorem d_Md_init_538 : decode prog_14_method_1_code 538 = .ok (.dup, 1) := by decide +kernel
theorem d_Md_init_539 : decode prog_14_method_1_code 539 = .ok (.bipush 89, 2) := by decide +kernel
theorem d_Md_init_541 : decode prog_14_method_1_code 541 = .ok (.bipush 24, 2) := by decide +kernel
theorem d_Md_init_543 : decode prog_14_method_1_code 543 = .ok (.iastore, 1) := by decide +kernel
theorem d_Md_init_544 : decode prog_14_method_1_code 544 = .ok (.dup, 1) := by decide +kernel
theorem d_Md_init_545 : decode prog_14_method_1_code 545 = .ok (.bipush 90, 2) := by decide +kernel
theorem d_Md_init_547 : decode prog_14_method_1_code 547 = .ok (.bipush 28, 2) := by decide +kernel
theorem d_Md_init_549 : decode prog_14_method_1_code 549 = .ok (.iastore, 1) := by decide +kernel
theorem d_Md_init_550 : decode prog_14_method_1_code 550 = .ok (.dup, 1) := by decide +kernel
theorem d_Md_init_551 : decode prog_14_method_1_code 551 = .ok (.bipush 91, 2) := by decide +kernel
theorem d_Md_init_553 : decode prog_14_method_1_code 553 = .ok (.bipush 26, 2) := by decide +kernel
theorem d_Md_init_555 : decode prog_14_method_1_code 555 = .ok (.iastore, 1) := by decide +kernel
theorem d_Md_init_556 : decode prog_14_method_1_code 556 = .ok (.dup, 1) := by decide +kernel
theorem d_Md_init_557 : decode prog_14_method_1_code 557 = .ok (.bipush 92, 2) := by decide +kernel
theorem d_Md_init_559 : decode prog_14_method_1_code 559 = .ok (.bipush 24, 2) := by decide +kernel
theorem d_Md_init_561 : decode prog_14_method_1_code 561 = .ok (.iastore, 1) := by decide +kernel
theorem d_Md_init_562 : decode prog_14_method_1_code 562 = .ok (.dup, 1) := by decide +kernel
theorem d_Md_init_563 : decode prog_14_method_1_code 563 = .ok (.bipush 93, 2) := by decide +kernel
theorem d_Md_init_565 : decode prog_14_method_1_code 565 = .ok (.bipush 20, 2) := by decide +kernel
theorem d_Md_init_567 : decode prog_14_method_1_code 567 = .ok (.iastore, 1) := by decide +kernel
theorem d_Md_init_568 : decode prog_14_method_1_code 568 = .ok (.dup, 1) := by decide +kernel
theorem d_Md_init_569 : decode prog_14_method_1_code 569 = .ok (.bipush 94, 2) := by decide +kernel
theorem d_Md_init_571 : decode prog_14_method_1_code 571 = .ok (.bipush 30, 2) := by decide +kernel
theorem d_Md_init_573 : decode prog_14_method_1_code 573 = .ok (.iastore, 1) := by decide +kernel
theorem d_Md_init_574 : decode prog_14_method_1_code 574 = .ok (.dup, 1) := by decide +kernel
theorem d_Md_init_575 : decode prog_14_method_1_code 575 = .ok (.bipush 95, 2) := by decide +kernel
theorem d_Md_init_577 : decode prog_14_method_1_code 577 = .ok (.bipush 24, 2) := by decide +kernel
theorem d_Md_init_579 : decode prog_14_method_1_code 579 = .ok (.iastore, 1) := by decide +kernel
theorem d_Md_init_580 : decode prog_14_method_1_code 580 = .ok (.dup, 1) := by decide +kernel
theorem d_Md_init_581 : decode prog_14_method_1_code 581 = .ok (.bipush 96, 2) := by decide +kernel
theorem d_Md_init_583 : decode prog_14_method_1_code 583 = .ok (.bipush 28, 2) := by decide +kernel
theorem d_Md_init_585 : decode prog_14_method_1_code 585 = .ok (.iastore, 1) := by decide +kernel
theorem d_Md_init_586 : decode prog_14_method_1_code 586 = .ok (.dup, 1) := by decide +kernel
theorem d_Md_init_587 : decode prog_14_method_1_code 587 = .ok (.bipush 97, 2) := by decide +kernel
theorem d_Md_init_589 : decode prog_14_method_1_code 589 = .ok (.bipush 28, 2) := by decide +kernel
theorem d_Md_init_591 : decode prog_14_method_1_code 591 = .ok (.iastore, 1) := by decide +kernel
theorem d_Md_init_592 : decode prog_14_method_1_code 592 = .ok (.dup, 1) := by decide +kernel
theorem d_Md_init_593 : decode prog_14_method_1_code 593 = .ok (.bipush 98, 2) := by decide +kernel
theorem d_Md_init_595 : decode prog_14_method_1_code 595 = .ok (.bipush 26, 2) := by decide +kernel
theorem d_Md_init_597 : decode prog_14_method_1_code 597 = .ok (.iastore, 1) := by decide +kernel
theorem d_Md_init_598 : decode prog_14_method_1_code 598 = .ok (.dup, 1) := by decide +kernel
theorem d_Md_init_599 : decode prog_14_method_1_code 599 = .ok (.bipush 99, 2) := by decide +kernel
theorem d_Md_init_601 : decode prog_14_method_1_code 601 = .ok (.bipush 30, 2) := by decide +kernel
theorem d_Md_init_603 : decode prog_14_method_1_code 603 = .ok (.iastore, 1) := by decide +kernel
theorem d_Md_init_604 : decode prog_14_method_1_code 604 = .ok (.dup, 1) := by decide +kernel
theorem d_Md_init_605 : decode prog_14_method_1_code 605 = .ok (.bipush 100, 2) := by decide +kernel
theorem d_Md_init_607 : decode prog_14_method_1_code 607 = .ok (.bipush 28, 2) := by decide +kernel
theorem d_Md_init_609 : decode prog_14_method_1_code 609 = .ok (.iastore, 1) := by decide +kernel
theorem d_Md_init_610 : decode prog_14_method_1_code 610 = .ok (.dup, 1) := by decide +kernel
theorem d_Md_init_611 : decode prog_14_method_1_code 611 = .ok (.bipush 101, 2) := by decide +kernel
theorem d_Md_init_613 : decode prog_14_method_1_code 613 = .ok (.bipush 30, 2) := by decide +kernel
theorem d_Md_init_615 : decode prog_14_method_1_code 615 = .ok (.iastore, 1) := by decide +kernel
theorem d_Md_init_616 : decode prog_14_method_1_code 616 = .ok (.dup, 1) := by decide +kernel
theorem d_Md_init_617 : decode prog_14_method_1_code 617 = .ok (.bipush 102, 2) := by decide +kernel
theorem d_Md_init_619 : decode prog_14_method_1_code 619 = .ok (.bipush 30, 2) := by decide +kernel
theorem d_Md_init_621 : decode prog_14_method_1_code 621 = .ok (.iastore, 1) := by decide +kernel
theorem d_Md_init_622 : decode prog_14_method_1_code 622 = .ok (.dup, 1) := by decide +kernel
theorem d_Md_init_623 : decode prog_14_method_1_code 623 = .ok (.bipush 103, 2) := by decide +kernel
theorem d_Md_init_625 : decode prog_14_method_1_code 625 = .ok (.bipush 30, 2) := by decide +kernel
theorem d_Md_init_627 : decode prog_14_method_1_code 627 = .ok (.iastore, 1) := by decide +kernel
theorem d_Md_init_628 : decode prog_14_method_1_code 628 = .ok (.dup, 1) := by decide +kernel
theorem d_Md_init_629 : decode prog_14_method_1_code 629 = .ok (.bipush 104, 2) := by decide +kernel
theorem d_Md_init_631 : decode prog_14_method_1_code 631 = .ok (.bipush 30, 2) := by decide +kernel
theorem d_Md_init_633 : decode prog_14_method_1_code 633 = .ok (.iastore, 1) := by decide +kernel
theorem d_Md_init_634 : decode prog_14_method_1_code 634 = .ok (.dup, 1) := by decide +kernel
theorem d_Md_init_635 : decode prog_14_method_1_code 635 = .ok (.bipush 105, 2) := by decide +kernel
theorem d_Md_init_637 : decode prog_14_method_1_code 637 = .ok (.bipush 28, 2) := by decide +kernel
theorem d_Md_init_639 : decode prog_14_method_1_code 639 = .ok (.iastore, 1) := by decide +kernel
theorem d_Md_init_640 : decode prog_14_method_1_code 640 = .ok (.dup, 1) := by decide +kernel
theorem d_Md_init_641 : decode prog_14_method_1_code 641 = .ok (.bipush 106, 2) := by decide +kernel
theorem d_Md_init_643 : decode prog_14_method_1_code 643 = .ok (.bipush 30, 2) := by decide +kernel
theorem d_Md_init_645 : decode prog_14_method_1_code 645 = .ok (.iastore, 1) := by decide +kernel
theorem d_Md_init_646 : decode prog_14_method_1_code 646 = .ok (.dup, 1) := by decide +kernel
theorem d_Md_init_647 : decode prog_14_method_1_code 647 = .ok (.bipush 107, 2) := by decide +kernel
theorem d_Md_init_649 : decode prog_14_method_1_code 649 = .ok (.bipush 30, 2) := by decide +kernel
theorem d_Md_init_651 : decode prog_14_method_1_code 651 = .ok (.iastore, 1) := by decide +kernel
theorem d_Md_init_652 : decode prog_14_method_1_code 652 = .ok (.dup, 1) := by decide +kernel
theorem d_Md_init_653 : decode prog_14_method_1_code 653 = .ok (.bipush 108, 2) := by decide +kernel
theorem d_Md_init_655 : decode prog_14_method_1_code 655 = .ok (.bipush 30, 2) := by decide +kernel
theorem d_Md_init_657 : decode prog_14_method_1_code 657 = .ok (.iastore, 1) := by decide +kernel
theorem d_Md_init_658 : decode prog_14_method_1_code 658 = .ok (.dup, 1) := by decide +kernel
theorem d_Md_init_659 : decode prog_14_method_1_code 659 = .ok (.bipush 109, 2) := by decide +kernel
theorem d_Md_init_661 : decode prog_14_method_1_code 661 = .ok (.bipush 30, 2) := by decide +kernel
theorem d_Md_init_663 : decode prog_14_method_1_code 663 = .ok (.iastore, 1) := by decide +kernel
theorem d_Md_init_664 : decode prog_14_method_1_code 664 = .ok (.dup, 1) := by decide +kernel
theorem d_Md_init_665 : decode prog_14_method_1_code 665 = .ok (.bipush 110, 2) := by decide +kernel
theorem d_Md_init_667 : decode prog_14_method_1_code 667 = .ok (.bipush 30, 2) := by decide +kernel
theorem d_Md_init_669 : decode prog_14_method_1_code 669 = .ok (.iastore, 1) := by decide +kernel
theorem d_Md_init_670 : decode prog_14_method_1_code 670 = .ok (.dup, 1) := by decide +kernel
theorem d_Md_init_671 : decode prog_14_method_1_code 671 = .ok (.bipush 111, 2) := by decide +kernel
theorem d_Md_init_673 : decode prog_14_method_1_code 673 = .ok (.bipush 30, 2) := by decide +kernel
theorem d_Md_init_675 : decode prog_14_method_1_code 675 = .ok (.iastore, 1) := by decide +kernel
theorem d_Md_init_676 : decode prog_14_method_1_code 676 = .ok (.dup, 1) := by decide +kernel
theorem d_Md_init_677 : decode prog_14_method_1_code 677 = .ok (.bipush 112, 2) := by decide +kernel
theorem d_Md_init_679 : decode prog_14_method_1_code 679 = .ok (.bipush 30, 2) := by decide +kernel
theorem d_Md_init_681 : decode prog_14_method_1_code 681 = .ok (.iastore, 1) := by decide +kernel
theorem d_Md_init_682 : decode prog_14_method_1_code 682 = .ok (.dup, 1) := by decide +kernel
theorem d_Md_init_683 : decode prog_14_method_1_code 683 = .ok (.bipush 113, 2) := by decide +kernel
theorem d_Md_init_685 : decode prog_14_method_1_code 685 = .ok (.bipush 30, 2) := by decide +kernel
theorem d_Md_init_687 : decode prog_14_method_1_code 687 = .ok (.iastore, 1) := by decide +kernel
theorem d_Md_init_688 : decode prog_14_method_1_code 688 = .ok (.dup, 1) := by decide +kernel
theorem d_Md_init_689 : decode prog_14_method_1_code 689 = .ok (.bipush 114, 2) := by decide +kernel
theorem d_Md_init_691 : decode prog_14_method_1_code 691 = .ok (.bipush 30, 2) := by decide +kernel
theorem d_Md_init_693 : decode prog_14_method_1_code 693 = .ok (.iastore, 1) := by decide +kernel
theorem d_Md_init_694 : decode prog_14_method_1_code 694 = .ok (.dup, 1) := by decide +kernel
theorem d_Md_init_695 : decode prog_14_method_1_code 695 = .ok (.bipush 115, 2) := by decide +kernel
theorem d_Md_init_697 : decode prog_14_method_1_code 697 = .ok (.bipush 30, 2) := by decide +kernel
theorem d_Md_init_699 : decode prog_14_method_1_code 699 = .ok (.iastore, 1) := by decide +kernel
theorem d_Md_init_700 : decode prog_14_method_1_code 700 = .ok (.dup, 1) := by decide +kernel
theorem d_Md_init_701 : decode prog_14_method_1_code 701 = .ok (.bipush 116, 2) := by decide +kernel
theorem d_Md_init_703 : decode prog_14_method_1_code 703 = .ok (.bipush 30, 2) := by decide +kernel
theorem d_Md_init_705 : decode prog_14_method_1_code 705 = .ok (.iastore, 1) := by decide +kernel
theorem d_Md_init_706 : decode prog_14_method_1_code 706 = .ok (.dup, 1) := by decide +kernel
theorem d_Md_init_707 : decode prog_14_method_1_code 707 = .ok (.bipush 117, 2) := by decide +kernel
theorem d_Md_init_709 : decode prog_14_method_1_code 709 = .ok (.bipush 30, 2) := by decide +kernel
theorem d_Md_init_711 : decode prog_14_method_1_code 711 = .ok (.iastore, 1) := by decide +kernel
theorem d_Md_init_712 : decode prog_14_method_1_code 712 = .ok (.dup, 1) := by decide +kernel
theorem d_Md_init_713 : decode prog_14_method_1_code 713 = .ok (.bipush 118, 2) := by decide +kernel
theorem d_Md_init_715 : decode prog_14_method_1_code 715 = .ok (.bipush 30, 2) := by decide +kernel
theorem d_Md_init_717 : decode prog_14_method_1_code 717 = .ok (.iastore, 1) := by decide +kernel
theorem d_Md_init_718 : decode prog_14_method_1_code 718 = .ok (.dup, 1) := by decide +kernel
theorem d_Md_init_719 : decode prog_14_method_1_code 719 = .ok (.bipush 119, 2) := by decide +kernel
theorem d_Md_init_721 : decode prog_14_method_1_code 721 = .ok (.bipush 30, 2) := by decide +kernel
theorem d_Md_init_723 : decode prog_14_method_1_code 723 = .ok (.iastore, 1) := by decide +kernel
theorem d_Md_init_724 : decode prog_14_method_1_code 724 = .ok (.dup, 1) := by decide +kernel
theorem d_Md_init_725 : decode prog_14_method_1_code 725 = .ok (.bipush 120, 2) := by decide +kernel
theorem d_Md_init_727 : decode prog_14_method_1_code 727 = .ok (.bipush 17, 2) := by decide +kernel
theorem d_Md_init_729 : decode prog_14_method_1_code 729 = .ok (.iastore, 1) := by decide +kernel
theorem d_Md_init_730 : decode prog_14_method_1_code 730 = .ok (.dup, 1) := by decide +kernel
theorem d_Md_init_731 : decode prog_14_method_1_code 731 = .ok (.bipush 121, 2) := by decide +kernel
theorem d_Md_init_733 : decode prog_14_method_1_code 733 = .ok (.bipush 28, 2) := by decide +kernel
theorem d_Md_init_735 : decode prog_14_method_1_code 735 = .ok (.iastore, 1) := by decide +kernel
theorem d_Md_init_736 : decode prog_14_method_1_code 736 = .ok (.dup, 1) := by decide +kernel
theorem d_Md_init_737 : decode prog_14_method_1_code 737 = .ok (.bipush 122, 2) := by decide +kernel
theorem d_Md_init_739 : decode prog_14_method_1_code 739 = .ok (.bipush 22, 2) := by decide +kernel
theorem d_Md_init_741 : decode prog_14_method_1_code 741 = .ok (.iastore, 1) := by decide +kernel
theorem d_Md_init_742 : decode prog_14_method_1_code 742 = .ok (.dup, 1) := by decide +kernel
theorem d_Md_init_743 : decode prog_14_method_1_code 743 = .ok (.bipush 123, 2) := by decide +kernel
theorem d_Md_init_745 : decode prog_14_method_1_code 745 = .ok (.bipush 16, 2) := by decide +kernel
theorem d_Md_init_747 : decode prog_14_method_1_code 747 = .ok (.iastore, 1) := by decide +kernel
theorem d_Md_init_748 : decode prog_14_method_1_code 748 = .ok (.dup, 1) := by decide +kernel
theorem d_Md_init_749 : decode prog_14_method_1_code 749 = .ok (.bipush 124, 2) := by decide +kernel
theorem d_Md_init_751 : decode prog_14_method_1_code 751 = .ok (.bipush 22, 2) := by decide +kernel
theorem d_Md_init_753 : decode prog_14_method_1_code 753 = .ok (.iastore, 1) := by decide +kernel
theorem d_Md_init_754 : decode prog_14_method_1_code 754 = .ok (.dup, 1) := by decide +kernel
theorem d_Md_init_755 : decode prog_14_method_1_code 755 = .ok (.bipush 125, 2) := by decide +kernel
theorem d_Md_init_757 : decode prog_14_method_1_code 757 = .ok (.bipush 28, 2) := by decide +kernel
theorem d_Md_init_759 : decode prog_14_method_1_code 759 = .ok (.iastore, 1) := by decide +kernel
theorem d_Md_init_760 : decode prog_14_method_1_code 760 = .ok (.dup, 1) := by decide +kernel
theorem d_Md_init_761 : decode prog_14_method_1_code 761 = .ok (.bipush 126, 2) := by decide +kernel
theorem d_Md_init_763 : decode prog_14_method_1_code 763 = .ok (.bipush 26, 2) := by decide +kernel
theorem d_Md_init_765 : decode prog_14_method_1_code 765 = .ok (.iastore, 1) := by decide +kernel
theorem d_Md_init_766 : decode prog_14_method_1_code 766 = .ok (.dup, 1) := by decide +kernel
theorem d_Md_init_767 : decode prog_14_method_1_code 767 = .ok (.bipush 127, 2) := by decide +kernel
theorem d_Md_init_769 : decode prog_14_method_1_code 769 = .ok (.bipush 26, 2) := by decide +kernel
theorem d_Md_init_771 : decode prog_14_method_1_code 771 = .ok (.iastore, 1) := by decide +kernel
theorem d_Md_init_772 : decode prog_14_method_1_code 772 = .ok (.dup, 1) := by decide +kernel
theorem d_Md_init_773 : decode prog_14_method_1_code 773 = .ok (.sipush 128, 3) := by decide +kernel
theorem d_Md_init_776 : decode prog_14_method_1_code 776 = .ok (.bipush 24, 2) := by decide +kernel
theorem d_Md_init_778 : decode prog_14_method_1_code 778 = .ok (.iastore, 1) := by decide +kernel
theorem d_Md_init_779 : decode prog_14_method_1_code 779 = .ok (.dup, 1) := by decide +kernel
theorem d_Md_init_780 : decode prog_14_method_1_code 780 = .ok (.sipush 129, 3) := by decide +kernel
theorem d_Md_init_783 : decode prog_14_method_1_code 783 = .ok (.bipush 28, 2) := by decide +kernel
theorem d_Md_init_785 : decode prog_14_method_1_code 785 = .ok (.iastore, 1) := by decide +kernel
theorem d_Md_init_786 : decode prog_14_method_1_code 786 = .ok (.dup, 1) := by decide +kernel
theorem d_Md_init_787 : decode prog_14_method_1_code 787 = .ok (.sipush 130, 3) := by decide +kernel
theorem d_Md_init_790 : decode prog_14_method_1_code 790 = .ok (.bipush 24, 2) := by decide +kernel
theorem d_Md_init_792 : decode prog_14_method_1_code 792 = .ok (.iastore, 1) := by decide +kernel
theorem d_Md_init_793 : decode prog_14_method_1_code 793 = .ok (.dup, 1) := by decide +kernel
theorem d_Md_init_794 : decode prog_14_method_1_code 794 = .ok (.sipush 131, 3) := by decide +kernel
theorem d_Md_init_797 : decode prog_14_method_1_code 797 = .ok (.bipush 28, 2) := by decide +kernel
theorem d_Md_init_799 : decode prog_14_method_1_code 799 = .ok (.iastore, 1) := by decide +kernel
theorem d_Md_init_800 : decode prog_14_method_1_code 800 = .ok (.dup, 1) := by decide +kernel
theorem d_Md_init_801 : decode prog_14_method_1_code 801 = .ok (.sipush 132, 3) := by decide +kernel
theorem d_Md_init_804 : decode prog_14_method_1_code 804 = .ok (.bipush 22, 2) := by decide +kernel
theorem d_Md_init_806 : decode prog_14_method_1_code 806 = .ok (.iastore, 1) := by decide +kernel
theorem d_Md_init_807 : decode prog_14_method_1_code 807 = .ok (.dup, 1) := by decide +kernel
theorem d_Md_init_808 : decode prog_14_method_1_code 808 = .ok (.sipush 133, 3) := by decide +kernel
theorem d_Md_init_811 : decode prog_14_method_1_code 811 = .ok (.bipush 24, 2) := by decide +kernel
theorem d_Md_init_813 : decode prog_14_method_1_code 813 = .ok (.iastore, 1) := by decide +kernel
theorem d_Md_init_814 : decode prog_14_method_1_code 814 = .ok (.dup, 1) := by decide +kernel
theorem d_Md_init_815 : decode prog_14_method_1_code 815 = .ok (.sipush 134, 3) := by decide +kernel
theorem d_Md_init_818 : decode prog_14_method_1_code 818 = .ok (.bipush 24, 2) := by decide +kernel
theorem d_Md_init_820 : decode prog_14_method_1_code 820 = .ok (.iastore, 1) := by decide +kernel
theorem d_Md_init_821 : decode prog_14_method_1_code 821 = .ok (.dup, 1) := by decide +kernel
theorem d_Md_init_822 : decode prog_14_method_1_code 822 = .ok (.sipush 135, 3) := by decide +kernel
theorem d_Md_init_825 : decode prog_14_method_1_code 825 = .ok (.bipush 30, 2) := by decide +kernel
theorem d_Md_init_827 : decode prog_14_method_1_code 827 = .ok (.iastore, 1) := by decide +kernel
theorem d_Md_init_828 : decode prog_14_method_1_code 828 = .ok (.dup, 1) := by decide +kernel
theorem d_Md_init_829 : decode prog_14_method_1_code 829 = .ok (.sipush 136, 3) := by decide +kernel
theorem d_Md_init_832 : decode prog_14_method_1_code 832 = .ok (.bipush 28, 2) := by decide +kernel
theorem d_Md_init_834 : decode prog_14_method_1_code 834 = .ok (.iastore, 1) := by decide +kernel
theorem d_Md_init_835 : decode prog_14_method_1_code 835 = .ok (.dup, 1) := by decide +kernel
theorem d_Md_init_836 : decode prog_14_method_1_code 836 = .ok (.sipush 137, 3) := by decide +kernel
theorem d_Md_init_839 : decode prog_14_method_1_code 839 = .ok (.bipush 28, 2) := by decide +kernel
theorem d_Md_init_841 : decode prog_14_method_1_code 841 = .ok (.iastore, 1) := by decide +kernel
theorem d_Md_init_842 : decode prog_14_method_1_code 842 = .ok (.dup, 1) := by decide +kernel
theorem d_Md_init_843 : decode prog_14_method_1_code 843 = .ok (.sipush 138, 3) := by decide +kernel
theorem d_Md_init_846 : decode prog_14_method_1_code 846 = .ok (.bipush 26, 2) := by decide +kernel
theorem d_Md_init_848 : decode prog_14_method_1_code 848 = .ok (.iastore, 1) := by decide +kernel
theorem d_Md_init_849 : decode prog_14_method_1_code 849 = .ok (.dup, 1) := by decide +kernel
theorem d_Md_init_850 : decode prog_14_method_1_code 850 = .ok (.sipush 139, 3) := by decide +kernel
theorem d_Md_init_853 : decode prog_14_method_1_code 853 = .ok (.bipush 28, 2) := by decide +kernel
theorem d_Md_init_855 : decode prog_14_method_1_code 855 = .ok (.iastore, 1) := by decide +kernel
theorem d_Md_init_856 : decode prog_14_method_1_code 856 = .ok (.dup, 1) := by decide +kernel
theorem d_Md_init_857 : decode prog_14_method_1_code 857 = .ok (.sipush 140, 3) := by decide +kernel
theorem d_Md_init_860 : decode prog_14_method_1_code 860 = .ok (.bipush 30, 2) := by decide +kernel
theorem d_Md_init_862 : decode prog_14_method_1_code 862 = .ok (.iastore, 1) := by decide +kernel
theorem d_Md_init_863 : decode prog_14_method_1_code 863 = .ok (.dup, 1) := by decide +kernel
theorem d_Md_init_864 : decode prog_14_method_1_code 864 = .ok (.sipush 141, 3) := by decide +kernel
theorem d_Md_init_867 : decode prog_14_method_1_code 867 = .ok (.bipush 24, 2) := by decide +kernel
theorem d_Md_init_869 : decode prog_14_method_1_code 869 = .ok (.iastore, 1) := by decide +kernel
theorem d_Md_init_870 : decode prog_14_method_1_code 870 = .ok (.dup, 1) := by decide +kernel
theorem d_Md_init_871 : decode prog_14_method_1_code 871 = .ok (.sipush 142, 3) := by decide +kernel
theorem d_Md_init_874 : decode prog_14_method_1_code 874 = .ok (.bipush 30, 2) := by decide +kernel
theorem d_Md_init_876 : decode prog_14_method_1_code 876 = .ok (.iastore, 1) := by decide +kernel
theorem d_Md_init_877 : decode prog_14_method_1_code 877 = .ok (.dup, 1) := by decide +kernel
theorem d_Md_init_878 : decode prog_14_method_1_code 878 = .ok (.sipush 143, 3) := by decide +kernel
theorem d_Md_init_881 : decode prog_14_method_1_code 881 = .ok (.bipush 30, 2) := by decide +kernel
theorem d_Md_init_883 : decode prog_14_method_1_code 883 = .ok (.iastore, 1) := by decide +kernel
theorem d_Md_init_884 : decode prog_14_method_1_code 884 = .ok (.dup, 1) := by decide +kernel
theorem d_Md_init_885 : decode prog_14_method_1_code 885 = .ok (.sipush 144, 3) := by decide +kernel
theorem d_Md_init_888 : decode prog_14_method_1_code 888 = .ok (.bipush 30, 2) := by decide +kernel
theorem d_Md_init_890 : decode prog_14_method_1_code 890 = .ok (.iastore, 1) := by decide +kernel
theorem d_Md_init_891 : decode prog_14_method_1_code 891 = .ok (.dup, 1) := by decide +kernel
theorem d_Md_init_892 : decode prog_14_method_1_code 892 = .ok (.sipush 145, 3) := by decide +kernel
theorem d_Md_init_895 : decode prog_14_method_1_code 895 = .ok (.bipush 30, 2) := by decide +kernel
theorem d_Md_init_897 : decode prog_14_method_1_code 897 = .ok (.iastore, 1) := by decide +kernel
theorem d_Md_init_898 : decode prog_14_method_1_code 898 = .ok (.dup, 1) := by decide +kernel
theorem d_Md_init_899 : decode prog_14_method_1_code 899 = .ok (.sipush 146, 3) := by decide +kernel
theorem d_Md_init_902 : decode prog_14_method_1_code 902 = .ok (.bipush 30, 2) := by decide +kernel
theorem d_Md_init_904 : decode prog_14_method_1_code 904 = .ok (.iastore, 1) := by decide +kernel
theorem d_Md_init_905 : decode prog_14_method_1_code 905 = .ok (.dup, 1) := by decide +kernel
theorem d_Md_init_906 : decode prog_14_method_1_code 906 = .ok (.sipush 147, 3) := by decide +kernel
theorem d_Md_init_909 : decode prog_14_method_1_code 909 = .ok (.bipush 30, 2) := by decide +kernel
theorem d_Md_init_911 : decode prog_14_method_1_code 911 = .ok (.iastore, 1) := by decide +kernel
theorem d_Md_init_912 : decode prog_14_method_1_code 912 = .ok (.dup, 1) := by decide +kernel
theorem d_Md_init_913 : decode prog_14_method_1_code 913 = .ok (.sipush 148, 3) := by decide +kernel
theorem d_Md_init_916 : decode prog_14_method_1_code 916 = .ok (.bipush 30, 2) := by decide +kernel
theorem d_Md_init_918 : decode prog_14_method_1_code 918 = .ok (.iastore, 1) := by decide +kernel
theorem d_Md_init_919 : decode prog_14_method_1_code 919 = .ok (.dup, 1) := by decide +kernel
theorem d_Md_init_920 : decode prog_14_method_1_code 920 = .ok (.sipush 149, 3) := by decide +kernel
theorem d_Md_init_923 : decode prog_14_method_1_code 923 = .ok (.bipush 30, 2) := by decide +kernel
theorem d_Md_init_925 : decode prog_14_method_1_code 925 = .ok (.iastore, 1) := by decide +kernel
theorem d_Md_init_926 : decode prog_14_method_1_code 926 = .ok (.dup, 1) := by decide +kernel
theorem d_Md_init_927 : decode prog_14_method_1_code 927 = .ok (.sipush 150, 3) := by decide +kernel
theorem d_Md_init_930 : decode prog_14_method_1_code 930 = .ok (.bipush 30, 2) := by decide +kernel
theorem d_Md_init_932 : decode prog_14_method_1_code 932 = .ok (.iastore, 1) := by decide +kernel
theorem d_Md_init_933 : decode prog_14_method_1_code 933 = .ok (.dup, 1) := by decide +kernel
theorem d_Md_init_934 : decode prog_14_method_1_code 934 = .ok (.sipush 151, 3) := by decide +kernel
theorem d_Md_init_937 : decode prog_14_method_1_code 937 = .ok (.bipush 30, 2) := by decide +kernel
theorem d_Md_init_939 : decode prog_14_method_1_code 939 = .ok (.iastore, 1) := by decide +kernel
theorem d_Md_init_940 : decode prog_14_method_1_code 940 = .ok (.dup, 1) := by decide +kernel
theorem d_Md_init_941 : decode prog_14_method_1_code 941 = .ok (.sipush 152, 3) := by decide +kernel
theorem d_Md_init_944 : decode prog_14_method_1_code 944 = .ok (.bipush 30, 2) := by decide +kernel
theorem d_Md_init_946 : decode prog_14_method_1_code 946 = .ok (.iastore, 1) := by decide +kernel
theorem d_Md_init_947 : decode prog_14_method_1_code 947 = .ok (.dup, 1) := by decide +kernel
theorem d_Md_init_948 : decode prog_14_method_1_code 948 = .ok (.sipush 153, 3) := by decide +kernel
theorem d_Md_init_951 : decode prog_14_method_1_code 951 = .ok (.bipush 30, 2) := by decide +kernel
theorem d_Md_init_953 : decode prog_14_method_1_code 953 = .ok (.iastore, 1) := by decide +kernel
theorem d_Md_init_954 : decode prog_14_method_1_code 954 = .ok (.dup, 1) := by decide +kernel
theorem d_Md_init_955 : decode prog_14_method_1_code 955 = .ok (.sipush 154, 3) := by decide +kernel
theorem d_Md_init_958 : decode prog_14_method_1_code 958 = .ok (.bipush 30, 2) := by decide +kernel
theorem d_Md_init_960 : decode prog_14_method_1_code 960 = .ok (.iastore, 1) := by decide +kernel
theorem d_Md_init_961 : decode prog_14_method_1_code 961 = .ok (.dup, 1) := by decide +kernel
theorem d_Md_init_962 : decode prog_14_method_1_code 962 = .ok (.sipush 155, 3) := by decide +kernel
theorem d_Md_init_965 : decode prog_14_method_1_code 965 = .ok (.bipush 30, 2) := by decide +kernel
theorem d_Md_init_967 : decode prog_14_method_1_code 967 = .ok (.iastore, 1) := by decide +kernel
theorem d_Md_init_968 : decode prog_14_method_1_code 968 = .ok (.dup, 1) := by decide +kernel
theorem d_Md_init_969 : decode prog_14_method_1_code 969 = .ok (.sipush 156, 3) := by decide +kernel
theorem d_Md_init_972 : decode prog_14_method_1_code 972 = .ok (.bipush 30, 2) := by decide +kernel
theorem d_Md_init_974 : decode prog_14_method_1_code 974 = .ok (.iastore, 1) := by decide +kernel
theorem d_Md_init_975 : decode prog_14_method_1_code 975 = .ok (.dup, 1) := by decide +kernel
theorem d_Md_init_976 : decode prog_14_method_1_code 976 = .ok (.sipush 157, 3) := by decide +kernel
theorem d_Md_init_979 : decode prog_14_method_1_code 979 = .ok (.bipush 30, 2) := by decide +kernel
theorem d_Md_init_981 : decode prog_14_method_1_code 981 = .ok (.iastore, 1) := by decide +kernel
theorem d_Md_init_982 : decode prog_14_method_1_code 982 = .ok (.dup, 1) := by decide +kernel
theorem d_Md_init_983 : decode prog_14_method_1_code 983 = .ok (.sipush 158, 3) := by decide +kernel
theorem d_Md_init_986 : decode prog_14_method_1_code 986 = .ok (.bipush 30, 2) := by decide +kernel
theorem d_Md_init_988 : decode prog_14_method_1_code 988 = .ok (.iastore, 1) := by decide +kernel
theorem d_Md_init_989 : decode prog_14_method_1_code 989 = .ok (.dup, 1) := by decide +kernel
theorem d_Md_init_990 : decode prog_14_method_1_code 990 = .ok (.sipush 159, 3) := by decide +kernel
theorem d_Md_init_993 : decode prog_14_method_1_code 993 = .ok (.bipush 30, 2) := by decide +kernel
theorem d_Md_init_995 : decode prog_14_method_1_code 995 = .ok (.iastore, 1) := by decide +kernel
theorem d_Md_init_996 : decode prog_14_method_1_code 996 = .ok (.putfield 7, 3) := by decide +kernel
theorem d_Md_init_999 : decode prog_14_method_1_code 999 = .ok (.aload_n 0, 1) := by decide +kernel
theorem d_Md_init_1000 : decode prog_14_method_1_code 1000 = .ok (.sipush 160, 3) := by decide +kernel
theorem d_Md_init_1003 : decode prog_14_method_1_code 1003 = .ok (.newarray .int, 2) := by decide +kernel
theorem d_Md_init_1005 : decode prog_14_method_1_code 1005 = .ok (.dup, 1) := by decide +kernel
theorem d_Md_init_1006 : decode prog_14_method_1_code 1006 = .ok (.iconst 0, 1) := by decide +kernel
theorem d_Md_init_1007 : decode prog_14_method_1_code 1007 = .ok (.iconst 1, 1) := by decide +kernel
theorem d_Md_init_1008 : decode prog_14_method_1_code 1008 = .ok (.iastore, 1) := by decide +kernel
theorem d_Md_init_1009 : decode prog_14_method_1_code 1009 = .ok (.dup, 1) := by decide +kernel
theorem d_Md_init_1010 : decode prog_14_method_1_code 1010 = .ok (.iconst 1, 1) := by decide +kernel
theorem d_Md_init_1011 : decode prog_14_method_1_code 1011 = .ok (.iconst 1, 1) := by decide +kernel
theorem d_Md_init_1012 : decode prog_14_method_1_code 1012 = .ok (.iastore, 1) := by decide +kernel
theorem d_Md_init_1013 : decode prog_14_method_1_code 1013 = .ok (.dup, 1) := by decide +kernel
theorem d_Md_init_1014 : decode prog_14_method_1_code 1014 = .ok (.iconst 2, 1) := by decide +kernel
theorem d_Md_init_1015 : decode prog_14_method_1_code 1015 = .ok (.iconst 1, 1) := by decide +kernel
theorem d_Md_init_1016 : decode prog_14_method_1_code 1016 = .ok (.iastore, 1) := by decide +kernel
theorem d_Md_init_1017 : decode prog_14_method_1_code 1017 = .ok (.dup, 1) := by decide +kernel
theorem d_Md_init_1018 : decode prog_14_method_1_code 1018 = .ok (.iconst 3, 1) := by decide +kernel
theorem d_Md_init_1019 : decode prog_14_method_1_code 1019 = .ok (.iconst 1, 1) := by decide +kernel
theorem d_Md_init_1020 : decode prog_14_method_1_code 1020 = .ok (.iastore, 1) := by decide +kernel
theorem d_Md_init_1021 : decode prog_14_method_1_code 1021 = .ok (.dup, 1) := by decide +kernel
theorem d_Md_init_1022 : decode prog_14_method_1_code 1022 = .ok (.iconst 4, 1) := by decide +kernel
theorem d_Md_init_1023 : decode prog_14_method_1_code 1023 = .ok (.iconst 1, 1) := by decide +kernel
theorem d_Md_init_1024 : decode prog_14_method_1_code 1024 = .ok (.iastore, 1) := by decide +kernel
theorem d_Md_init_1025 : decode prog_14_method_1_code 1025 = .ok (.dup, 1) := by decide +kernel
theorem d_Md_init_1026 : decode prog_14_method_1_code 1026 = .ok (.iconst 5, 1) := by decide +kernel
theorem d_Md_init_1027 : decode prog_14_method_1_code 1027 = .ok (.iconst 2, 1) := by decide +kernel
theorem d_Md_init_1028 : decode prog_14_method_1_code 1028 = .ok (.iastore, 1) := by decide +kernel
theorem d_Md_init_1029 : decode prog_14_method_1_code 1029 = .ok (.dup, 1) := by decide +kernel
theorem d_Md_init_1030 : decode prog_14_method_1_code 1030 = .ok (.bipush 6, 2) := by decide +kernel
theorem d_Md_init_1032 : decode prog_14_method_1_code 1032 = .ok (.iconst 2, 1) := by decide +kernel
theorem d_Md_init_1033 : decode prog_14_method_1_code 1033 = .ok (.iastore, 1) := by decide +kernel
theorem d_Md_init_1034 : decode prog_14_method_1_code 1034 = .ok (.dup, 1) := by decide +kernel
theorem d_Md_init_1035 : decode prog_14_method_1_code 1035 = .ok (.bipush 7, 2) := by decide +kernel
theorem d_Md_init_1037 : decode prog_14_method_1_code 1037 = .ok (.iconst 2, 1) := by decide +kernel
theorem d_Md_init_1038 : decode prog_14_method_1_code 1038 = .ok (.iastore, 1) := by decide +kernel
theorem d_Md_init_1039 : decode prog_14_method_1_code 1039 = .ok (.dup, 1) := by decide +kernel
theorem d_Md_init_1040 : decode prog_14_method_1_code 1040 = .ok (.bipush 8, 2) := by decide +kernel
theorem d_Md_init_1042 : decode prog_14_method_1_code 1042 = .ok (.iconst 2, 1) := by decide +kernel
theorem d_Md_init_1043 : decode prog_14_method_1_code 1043 = .ok (.iastore, 1) := by decide +kernel
theorem d_Md_init_1044 : decode prog_14_method_1_code 1044 = .ok (.dup, 1) := by decide +kernel
theorem d_Md_init_1045 : decode prog_14_method_1_code 1045 = .ok (.bipush 9, 2) := by decide +kernel
theorem d_Md_init_1047 : decode prog_14_method_1_code 1047 = .ok (.iconst 4, 1) := by decide +kernel
theorem d_Md_init_1048 : decode prog_14_method_1_code 1048 = .ok (.iastore, 1) := by decide +kernel
theorem d_Md_init_1049 : decode prog_14_method_1_code 1049 = .ok (.dup, 1) := by decide +kernel
theorem d_Md_init_1050 : decode prog_14_method_1_code 1050 = .ok (.bipush 10, 2) := by decide +kernel
theorem d_Md_init_1052 : decode prog_14_method_1_code 1052 = .ok (.iconst 4, 1) := by decide +kernel
theorem d_Md_init_1053 : decode prog_14_method_1_code 1053 = .ok (.iastore, 1) := by decide +kernel
theorem d_Md_init_1054 : decode prog_14_method_1_code 1054 = .ok (.dup, 1) := by decide +kernel
theorem d_Md_init_1055 : decode prog_14_method_1_code 1055 = .ok (.bipush 11, 2) := by decide +kernel
theorem d_Md_init_1057 : decode prog_14_method_1_code 1057 = .ok (.iconst 4, 1) := by decide +kernel
theorem d_Md_init_1058 : decode prog_14_method_1_code 1058 = .ok (.iastore, 1) := by decide +kernel
theorem d_Md_init_1059 : decode prog_14_method_1_code 1059 = .ok (.dup, 1) := by decide +kernel
theorem d_Md_init_1060 : decode prog_14_method_1_code 1060 = .ok (.bipush 12, 2) := by decide +kernel
theorem d_Md_init_1062 : decode prog_14_method_1_code 1062 = .ok (.iconst 4, 1) := by decide +kernel
