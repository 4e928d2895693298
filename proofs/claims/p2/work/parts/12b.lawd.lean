theorem dL_law_620 : decode cL_law 620 = .ok (.pop, 1) := dLg_15.2.2.2.2.1
theorem dL_law_621 : decode cL_law 621 = .ok (.aload_n 2, 1) := dLg_15.2.2.2.2.2.1
theorem dL_law_622 : decode cL_law 622 = .ok (.aload_n 0, 1) := dLg_15.2.2.2.2.2.2.1
theorem dL_law_623 : decode cL_law 623 = .ok (.iload_n 3, 1) := dLg_15.2.2.2.2.2.2.2.1
theorem dL_law_624 : decode cL_law 624 = .ok (.iconst 1, 1) := dLg_15.2.2.2.2.2.2.2.2.1
theorem dL_law_625 : decode cL_law 625 = .ok (.iadd, 1) := dLg_15.2.2.2.2.2.2.2.2.2.1
theorem dL_law_626 : decode cL_law 626 = .ok (.iaload, 1) := dLg_15.2.2.2.2.2.2.2.2.2.2.1
theorem dL_law_627 : decode cL_law 627 = .ok (.aload_n 0, 1) := dLg_15.2.2.2.2.2.2.2.2.2.2.2.1
theorem dL_law_628 : decode cL_law 628 = .ok (.iload_n 3, 1) := dLg_15.2.2.2.2.2.2.2.2.2.2.2.2.1
theorem dL_law_629 : decode cL_law 629 = .ok (.iconst 2, 1) := dLg_15.2.2.2.2.2.2.2.2.2.2.2.2.2.1
theorem dL_law_630 : decode cL_law 630 = .ok (.iadd, 1) := dLg_15.2.2.2.2.2.2.2.2.2.2.2.2.2.2.1
theorem dL_law_631 : decode cL_law 631 = .ok (.iaload, 1) := dLg_15.2.2.2.2.2.2.2.2.2.2.2.2.2.2.2.1
theorem dL_law_632 : decode cL_law 632 = .ok (.aload_n 0, 1) := dLg_15.2.2.2.2.2.2.2.2.2.2.2.2.2.2.2.2.1
theorem dL_law_633 : decode cL_law 633 = .ok (.iload_n 3, 1) := dLg_15.2.2.2.2.2.2.2.2.2.2.2.2.2.2.2.2.2.1
theorem dL_law_634 : decode cL_law 634 = .ok (.iconst 3, 1) := dLg_15.2.2.2.2.2.2.2.2.2.2.2.2.2.2.2.2.2.2.1
theorem dL_law_635 : decode cL_law 635 = .ok (.iadd, 1) := dLg_15.2.2.2.2.2.2.2.2.2.2.2.2.2.2.2.2.2.2.2.1
theorem dL_law_636 : decode cL_law 636 = .ok (.iaload, 1) := dLg_15.2.2.2.2.2.2.2.2.2.2.2.2.2.2.2.2.2.2.2.2.1
theorem dL_law_637 : decode cL_law 637 = .ok (.aload_n 0, 1) := dLg_15.2.2.2.2.2.2.2.2.2.2.2.2.2.2.2.2.2.2.2.2.2.1
theorem dL_law_638 : decode cL_law 638 = .ok (.iload_n 3, 1) := dLg_15.2.2.2.2.2.2.2.2.2.2.2.2.2.2.2.2.2.2.2.2.2.2.1
theorem dL_law_639 : decode cL_law 639 = .ok (.iconst 4, 1) := dLg_15.2.2.2.2.2.2.2.2.2.2.2.2.2.2.2.2.2.2.2.2.2.2.2
theorem dLg_16 : (decode cL_law 640 = .ok (.iadd, 1)) ∧ (decode cL_law 641 = .ok (.iaload, 1)) ∧ (decode cL_law 642 = .ok (.invokevirtual 64, 3)) ∧ (decode cL_law 645 = .ok (.pop, 1)) ∧ (decode cL_law 646 = .ok (.goto 1268, 3)) ∧ (decode cL_law 649 = .ok (.aload_n 1, 1)) ∧ (decode cL_law 650 = .ok (.aload_n 0, 1)) ∧ (decode cL_law 651 = .ok (.iload_n 3, 1)) ∧ (decode cL_law 652 = .ok (.iconst 1, 1)) ∧ (decode cL_law 653 = .ok (.iadd, 1)) ∧ (decode cL_law 654 = .ok (.iaload, 1)) ∧ (decode cL_law 655 = .ok (.aload_n 0, 1)) ∧ (decode cL_law 656 = .ok (.iload_n 3, 1)) ∧ (decode cL_law 657 = .ok (.iconst 2, 1)) ∧ (decode cL_law 658 = .ok (.iadd, 1)) ∧ (decode cL_law 659 = .ok (.iaload, 1)) ∧ (decode cL_law 660 = .ok (.aload_n 0, 1)) ∧ (decode cL_law 661 = .ok (.iload_n 3, 1)) ∧ (decode cL_law 662 = .ok (.iconst 3, 1)) ∧ (decode cL_law 663 = .ok (.iadd, 1)) ∧ (decode cL_law 664 = .ok (.iaload, 1)) ∧ (decode cL_law 665 = .ok (.aload_n 0, 1)) ∧ (decode cL_law 666 = .ok (.iload_n 3, 1)) ∧ (decode cL_law 667 = .ok (.iconst 4, 1)) := by decide +kernel
theorem dL_law_640 : decode cL_law 640 = .ok (.iadd, 1) := dLg_16.1
theorem dL_law_641 : decode cL_law 641 = .ok (.iaload, 1) := dLg_16.2.1
theorem dL_law_642 : decode cL_law 642 = .ok (.invokevirtual 64, 3) := dLg_16.2.2.1
theorem dL_law_645 : decode cL_law 645 = .ok (.pop, 1) := dLg_16.2.2.2.1
theorem dL_law_646 : decode cL_law 646 = .ok (.goto 1268, 3) := dLg_16.2.2.2.2.1
theorem dL_law_649 : decode cL_law 649 = .ok (.aload_n 1, 1) := dLg_16.2.2.2.2.2.1
theorem dL_law_650 : decode cL_law 650 = .ok (.aload_n 0, 1) := dLg_16.2.2.2.2.2.2.1
theorem dL_law_651 : decode cL_law 651 = .ok (.iload_n 3, 1) := dLg_16.2.2.2.2.2.2.2.1
theorem dL_law_652 : decode cL_law 652 = .ok (.iconst 1, 1) := dLg_16.2.2.2.2.2.2.2.2.1
theorem dL_law_653 : decode cL_law 653 = .ok (.iadd, 1) := dLg_16.2.2.2.2.2.2.2.2.2.1
theorem dL_law_654 : decode cL_law 654 = .ok (.iaload, 1) := dLg_16.2.2.2.2.2.2.2.2.2.2.1
theorem dL_law_655 : decode cL_law 655 = .ok (.aload_n 0, 1) := dLg_16.2.2.2.2.2.2.2.2.2.2.2.1
theorem dL_law_656 : decode cL_law 656 = .ok (.iload_n 3, 1) := dLg_16.2.2.2.2.2.2.2.2.2.2.2.2.1
theorem dL_law_657 : decode cL_law 657 = .ok (.iconst 2, 1) := dLg_16.2.2.2.2.2.2.2.2.2.2.2.2.2.1
theorem dL_law_658 : decode cL_law 658 = .ok (.iadd, 1) := dLg_16.2.2.2.2.2.2.2.2.2.2.2.2.2.2.1
theorem dL_law_659 : decode cL_law 659 = .ok (.iaload, 1) := dLg_16.2.2.2.2.2.2.2.2.2.2.2.2.2.2.2.1
theorem dL_law_660 : decode cL_law 660 = .ok (.aload_n 0, 1) := dLg_16.2.2.2.2.2.2.2.2.2.2.2.2.2.2.2.2.1
theorem dL_law_661 : decode cL_law 661 = .ok (.iload_n 3, 1) := dLg_16.2.2.2.2.2.2.2.2.2.2.2.2.2.2.2.2.2.1
theorem dL_law_662 : decode cL_law 662 = .ok (.iconst 3, 1) := dLg_16.2.2.2.2.2.2.2.2.2.2.2.2.2.2.2.2.2.2.1
theorem dL_law_663 : decode cL_law 663 = .ok (.iadd, 1) := dLg_16.2.2.2.2.2.2.2.2.2.2.2.2.2.2.2.2.2.2.2.1
theorem dL_law_664 : decode cL_law 664 = .ok (.iaload, 1) := dLg_16.2.2.2.2.2.2.2.2.2.2.2.2.2.2.2.2.2.2.2.2.1
theorem dL_law_665 : decode cL_law 665 = .ok (.aload_n 0, 1) := dLg_16.2.2.2.2.2.2.2.2.2.2.2.2.2.2.2.2.2.2.2.2.2.1
theorem dL_law_666 : decode cL_law 666 = .ok (.iload_n 3, 1) := dLg_16.2.2.2.2.2.2.2.2.2.2.2.2.2.2.2.2.2.2.2.2.2.2.1
theorem dL_law_667 : decode cL_law 667 = .ok (.iconst 4, 1) := dLg_16.2.2.2.2.2.2.2.2.2.2.2.2.2.2.2.2.2.2.2.2.2.2.2
theorem dLg_17 : (decode cL_law 668 = .ok (.iadd, 1)) ∧ (decode cL_law 669 = .ok (.iaload, 1)) ∧ (decode cL_law 670 = .ok (.invokevirtual 65, 3)) ∧ (decode cL_law 673 = .ok (.pop, 1)) ∧ (decode cL_law 674 = .ok (.aload_n 2, 1)) ∧ (decode cL_law 675 = .ok (.aload_n 0, 1)) ∧ (decode cL_law 676 = .ok (.iload_n 3, 1)) ∧ (decode cL_law 677 = .ok (.iconst 1, 1)) ∧ (decode cL_law 678 = .ok (.iadd, 1)) ∧ (decode cL_law 679 = .ok (.iaload, 1)) ∧ (decode cL_law 680 = .ok (.aload_n 0, 1)) ∧ (decode cL_law 681 = .ok (.iload_n 3, 1)) ∧ (decode cL_law 682 = .ok (.iconst 2, 1)) ∧ (decode cL_law 683 = .ok (.iadd, 1)) ∧ (decode cL_law 684 = .ok (.iaload, 1)) ∧ (decode cL_law 685 = .ok (.aload_n 0, 1)) ∧ (decode cL_law 686 = .ok (.iload_n 3, 1)) ∧ (decode cL_law 687 = .ok (.iconst 3, 1)) ∧ (decode cL_law 688 = .ok (.iadd, 1)) ∧ (decode cL_law 689 = .ok (.iaload, 1)) ∧ (decode cL_law 690 = .ok (.aload_n 0, 1)) ∧ (decode cL_law 691 = .ok (.iload_n 3, 1)) ∧ (decode cL_law 692 = .ok (.iconst 4, 1)) ∧ (decode cL_law 693 = .ok (.iadd, 1)) := by decide +kernel
theorem dL_law_668 : decode cL_law 668 = .ok (.iadd, 1) := dLg_17.1
theorem dL_law_669 : decode cL_law 669 = .ok (.iaload, 1) := dLg_17.2.1
theorem dL_law_670 : decode cL_law 670 = .ok (.invokevirtual 65, 3) := dLg_17.2.2.1
theorem dL_law_673 : decode cL_law 673 = .ok (.pop, 1) := dLg_17.2.2.2.1
theorem dL_law_674 : decode cL_law 674 = .ok (.aload_n 2, 1) := dLg_17.2.2.2.2.1
theorem dL_law_675 : decode cL_law 675 = .ok (.aload_n 0, 1) := dLg_17.2.2.2.2.2.1
theorem dL_law_676 : decode cL_law 676 = .ok (.iload_n 3, 1) := dLg_17.2.2.2.2.2.2.1
theorem dL_law_677 : decode cL_law 677 = .ok (.iconst 1, 1) := dLg_17.2.2.2.2.2.2.2.1
theorem dL_law_678 : decode cL_law 678 = .ok (.iadd, 1) := dLg_17.2.2.2.2.2.2.2.2.1
theorem dL_law_679 : decode cL_law 679 = .ok (.iaload, 1) := dLg_17.2.2.2.2.2.2.2.2.2.1
theorem dL_law_680 : decode cL_law 680 = .ok (.aload_n 0, 1) := dLg_17.2.2.2.2.2.2.2.2.2.2.1
theorem dL_law_681 : decode cL_law 681 = .ok (.iload_n 3, 1) := dLg_17.2.2.2.2.2.2.2.2.2.2.2.1
theorem dL_law_682 : decode cL_law 682 = .ok (.iconst 2, 1) := dLg_17.2.2.2.2.2.2.2.2.2.2.2.2.1
theorem dL_law_683 : decode cL_law 683 = .ok (.iadd, 1) := dLg_17.2.2.2.2.2.2.2.2.2.2.2.2.2.1
theorem dL_law_684 : decode cL_law 684 = .ok (.iaload, 1) := dLg_17.2.2.2.2.2.2.2.2.2.2.2.2.2.2.1
theorem dL_law_685 : decode cL_law 685 = .ok (.aload_n 0, 1) := dLg_17.2.2.2.2.2.2.2.2.2.2.2.2.2.2.2.1
theorem dL_law_686 : decode cL_law 686 = .ok (.iload_n 3, 1) := dLg_17.2.2.2.2.2.2.2.2.2.2.2.2.2.2.2.2.1
theorem dL_law_687 : decode cL_law 687 = .ok (.iconst 3, 1) := dLg_17.2.2.2.2.2.2.2.2.2.2.2.2.2.2.2.2.2.1
theorem dL_law_688 : decode cL_law 688 = .ok (.iadd, 1) := dLg_17.2.2.2.2.2.2.2.2.2.2.2.2.2.2.2.2.2.2.1
theorem dL_law_689 : decode cL_law 689 = .ok (.iaload, 1) := dLg_17.2.2.2.2.2.2.2.2.2.2.2.2.2.2.2.2.2.2.2.1
theorem dL_law_690 : decode cL_law 690 = .ok (.aload_n 0, 1) := dLg_17.2.2.2.2.2.2.2.2.2.2.2.2.2.2.2.2.2.2.2.2.1
theorem dL_law_691 : decode cL_law 691 = .ok (.iload_n 3, 1) := dLg_17.2.2.2.2.2.2.2.2.2.2.2.2.2.2.2.2.2.2.2.2.2.1
theorem dL_law_692 : decode cL_law 692 = .ok (.iconst 4, 1) := dLg_17.2.2.2.2.2.2.2.2.2.2.2.2.2.2.2.2.2.2.2.2.2.2.1
theorem dL_law_693 : decode cL_law 693 = .ok (.iadd, 1) := dLg_17.2.2.2.2.2.2.2.2.2.2.2.2.2.2.2.2.2.2.2.2.2.2.2
theorem dLg_18 : (decode cL_law 694 = .ok (.iaload, 1)) ∧ (decode cL_law 695 = .ok (.invokevirtual 68, 3)) ∧ (decode cL_law 698 = .ok (.pop, 1)) ∧ (decode cL_law 699 = .ok (.goto 1215, 3)) ∧ (decode cL_law 702 = .ok (.aload_n 1, 1)) ∧ (decode cL_law 703 = .ok (.aload_n 0, 1)) ∧ (decode cL_law 704 = .ok (.iload_n 3, 1)) ∧ (decode cL_law 705 = .ok (.iconst 1, 1)) ∧ (decode cL_law 706 = .ok (.iadd, 1)) ∧ (decode cL_law 707 = .ok (.iaload, 1)) ∧ (decode cL_law 708 = .ok (.aload_n 0, 1)) ∧ (decode cL_law 709 = .ok (.iload_n 3, 1)) ∧ (decode cL_law 710 = .ok (.iconst 2, 1)) ∧ (decode cL_law 711 = .ok (.iadd, 1)) ∧ (decode cL_law 712 = .ok (.iaload, 1)) ∧ (decode cL_law 713 = .ok (.invokevirtual 69, 3)) ∧ (decode cL_law 716 = .ok (.pop, 1)) ∧ (decode cL_law 717 = .ok (.aload_n 2, 1)) ∧ (decode cL_law 718 = .ok (.aload_n 0, 1)) ∧ (decode cL_law 719 = .ok (.iload_n 3, 1)) ∧ (decode cL_law 720 = .ok (.iconst 1, 1)) ∧ (decode cL_law 721 = .ok (.iadd, 1)) ∧ (decode cL_law 722 = .ok (.iaload, 1)) ∧ (decode cL_law 723 = .ok (.aload_n 0, 1)) := by decide +kernel
theorem dL_law_694 : decode cL_law 694 = .ok (.iaload, 1) := dLg_18.1
theorem dL_law_695 : decode cL_law 695 = .ok (.invokevirtual 68, 3) := dLg_18.2.1
theorem dL_law_698 : decode cL_law 698 = .ok (.pop, 1) := dLg_18.2.2.1
theorem dL_law_699 : decode cL_law 699 = .ok (.goto 1215, 3) := dLg_18.2.2.2.1
theorem dL_law_702 : decode cL_law 702 = .ok (.aload_n 1, 1) := dLg_18.2.2.2.2.1
theorem dL_law_703 : decode cL_law 703 = .ok (.aload_n 0, 1) := dLg_18.2.2.2.2.2.1
theorem dL_law_704 : decode cL_law 704 = .ok (.iload_n 3, 1) := dLg_18.2.2.2.2.2.2.1
theorem dL_law_705 : decode cL_law 705 = .ok (.iconst 1, 1) := dLg_18.2.2.2.2.2.2.2.1
theorem dL_law_706 : decode cL_law 706 = .ok (.iadd, 1) := dLg_18.2.2.2.2.2.2.2.2.1
theorem dL_law_707 : decode cL_law 707 = .ok (.iaload, 1) := dLg_18.2.2.2.2.2.2.2.2.2.1
theorem dL_law_708 : decode cL_law 708 = .ok (.aload_n 0, 1) := dLg_18.2.2.2.2.2.2.2.2.2.2.1
theorem dL_law_709 : decode cL_law 709 = .ok (.iload_n 3, 1) := dLg_18.2.2.2.2.2.2.2.2.2.2.2.1
theorem dL_law_710 : decode cL_law 710 = .ok (.iconst 2, 1) := dLg_18.2.2.2.2.2.2.2.2.2.2.2.2.1
theorem dL_law_711 : decode cL_law 711 = .ok (.iadd, 1) := dLg_18.2.2.2.2.2.2.2.2.2.2.2.2.2.1
theorem dL_law_712 : decode cL_law 712 = .ok (.iaload, 1) := dLg_18.2.2.2.2.2.2.2.2.2.2.2.2.2.2.1
theorem dL_law_713 : decode cL_law 713 = .ok (.invokevirtual 69, 3) := dLg_18.2.2.2.2.2.2.2.2.2.2.2.2.2.2.2.1
theorem dL_law_716 : decode cL_law 716 = .ok (.pop, 1) := dLg_18.2.2.2.2.2.2.2.2.2.2.2.2.2.2.2.2.1
theorem dL_law_717 : decode cL_law 717 = .ok (.aload_n 2, 1) := dLg_18.2.2.2.2.2.2.2.2.2.2.2.2.2.2.2.2.2.1
theorem dL_law_718 : decode cL_law 718 = .ok (.aload_n 0, 1) := dLg_18.2.2.2.2.2.2.2.2.2.2.2.2.2.2.2.2.2.2.1
theorem dL_law_719 : decode cL_law 719 = .ok (.iload_n 3, 1) := dLg_18.2.2.2.2.2.2.2.2.2.2.2.2.2.2.2.2.2.2.2.1
theorem dL_law_720 : decode cL_law 720 = .ok (.iconst 1, 1) := dLg_18.2.2.2.2.2.2.2.2.2.2.2.2.2.2.2.2.2.2.2.2.1
theorem dL_law_721 : decode cL_law 721 = .ok (.iadd, 1) := dLg_18.2.2.2.2.2.2.2.2.2.2.2.2.2.2.2.2.2.2.2.2.2.1
theorem dL_law_722 : decode cL_law 722 = .ok (.iaload, 1) := dLg_18.2.2.2.2.2.2.2.2.2.2.2.2.2.2.2.2.2.2.2.2.2.2.1
theorem dL_law_723 : decode cL_law 723 = .ok (.aload_n 0, 1) := dLg_18.2.2.2.2.2.2.2.2.2.2.2.2.2.2.2.2.2.2.2.2.2.2.2
theorem dLg_19 : (decode cL_law 724 = .ok (.iload_n 3, 1)) ∧ (decode cL_law 725 = .ok (.iconst 2, 1)) ∧ (decode cL_law 726 = .ok (.iadd, 1)) ∧ (decode cL_law 727 = .ok (.iaload, 1)) ∧ (decode cL_law 728 = .ok (.invokevirtual 72, 3)) ∧ (decode cL_law 731 = .ok (.pop, 1)) ∧ (decode cL_law 732 = .ok (.goto 1182, 3)) ∧ (decode cL_law 735 = .ok (.aload_n 1, 1)) ∧ (decode cL_law 736 = .ok (.invokevirtual 73, 3)) ∧ (decode cL_law 739 = .ok (.pop, 1)) ∧ (decode cL_law 740 = .ok (.aload_n 2, 1)) ∧ (decode cL_law 741 = .ok (.invokevirtual 76, 3)) ∧ (decode cL_law 744 = .ok (.pop, 1)) ∧ (decode cL_law 745 = .ok (.goto 1169, 3)) ∧ (decode cL_law 748 = .ok (.aload_n 1, 1)) ∧ (decode cL_law 749 = .ok (.aload_n 0, 1)) ∧ (decode cL_law 750 = .ok (.iload_n 3, 1)) ∧ (decode cL_law 751 = .ok (.iconst 1, 1)) ∧ (decode cL_law 752 = .ok (.iadd, 1)) ∧ (decode cL_law 753 = .ok (.iaload, 1)) ∧ (decode cL_law 754 = .ok (.aload_n 0, 1)) ∧ (decode cL_law 755 = .ok (.iload_n 3, 1)) ∧ (decode cL_law 756 = .ok (.iconst 2, 1)) ∧ (decode cL_law 757 = .ok (.iadd, 1)) := by decide +kernel
theorem dL_law_724 : decode cL_law 724 = .ok (.iload_n 3, 1) := dLg_19.1
theorem dL_law_725 : decode cL_law 725 = .ok (.iconst 2, 1) := dLg_19.2.1
theorem dL_law_726 : decode cL_law 726 = .ok (.iadd, 1) := dLg_19.2.2.1
theorem dL_law_727 : decode cL_law 727 = .ok (.iaload, 1) := dLg_19.2.2.2.1
theorem dL_law_728 : decode cL_law 728 = .ok (.invokevirtual 72, 3) := dLg_19.2.2.2.2.1
theorem dL_law_731 : decode cL_law 731 = .ok (.pop, 1) := dLg_19.2.2.2.2.2.1
theorem dL_law_732 : decode cL_law 732 = .ok (.goto 1182, 3) := dLg_19.2.2.2.2.2.2.1
theorem dL_law_735 : decode cL_law 735 = .ok (.aload_n 1, 1) := dLg_19.2.2.2.2.2.2.2.1
theorem dL_law_736 : decode cL_law 736 = .ok (.invokevirtual 73, 3) := dLg_19.2.2.2.2.2.2.2.2.1
theorem dL_law_739 : decode cL_law 739 = .ok (.pop, 1) := dLg_19.2.2.2.2.2.2.2.2.2.1
theorem dL_law_740 : decode cL_law 740 = .ok (.aload_n 2, 1) := dLg_19.2.2.2.2.2.2.2.2.2.2.1
theorem dL_law_741 : decode cL_law 741 = .ok (.invokevirtual 76, 3) := dLg_19.2.2.2.2.2.2.2.2.2.2.2.1
theorem dL_law_744 : decode cL_law 744 = .ok (.pop, 1) := dLg_19.2.2.2.2.2.2.2.2.2.2.2.2.1
theorem dL_law_745 : decode cL_law 745 = .ok (.goto 1169, 3) := dLg_19.2.2.2.2.2.2.2.2.2.2.2.2.2.1
theorem dL_law_748 : decode cL_law 748 = .ok (.aload_n 1, 1) := dLg_19.2.2.2.2.2.2.2.2.2.2.2.2.2.2.1
theorem dL_law_749 : decode cL_law 749 = .ok (.aload_n 0, 1) := dLg_19.2.2.2.2.2.2.2.2.2.2.2.2.2.2.2.1
theorem dL_law_750 : decode cL_law 750 = .ok (.iload_n 3, 1) := dLg_19.2.2.2.2.2.2.2.2.2.2.2.2.2.2.2.2.1
theorem dL_law_751 : decode cL_law 751 = .ok (.iconst 1, 1) := dLg_19.2.2.2.2.2.2.2.2.2.2.2.2.2.2.2.2.2.1
theorem dL_law_752 : decode cL_law 752 = .ok (.iadd, 1) := dLg_19.2.2.2.2.2.2.2.2.2.2.2.2.2.2.2.2.2.2.1
theorem dL_law_753 : decode cL_law 753 = .ok (.iaload, 1) := dLg_19.2.2.2.2.2.2.2.2.2.2.2.2.2.2.2.2.2.2.2.1
theorem dL_law_754 : decode cL_law 754 = .ok (.aload_n 0, 1) := dLg_19.2.2.2.2.2.2.2.2.2.2.2.2.2.2.2.2.2.2.2.2.1
theorem dL_law_755 : decode cL_law 755 = .ok (.iload_n 3, 1) := dLg_19.2.2.2.2.2.2.2.2.2.2.2.2.2.2.2.2.2.2.2.2.2.1
theorem dL_law_756 : decode cL_law 756 = .ok (.iconst 2, 1) := dLg_19.2.2.2.2.2.2.2.2.2.2.2.2.2.2.2.2.2.2.2.2.2.2.1
theorem dL_law_757 : decode cL_law 757 = .ok (.iadd, 1) := dLg_19.2.2.2.2.2.2.2.2.2.2.2.2.2.2.2.2.2.2.2.2.2.2.2
theorem dLg_20 : (decode cL_law 758 = .ok (.iaload, 1)) ∧ (decode cL_law 759 = .ok (.ifCond .eq 7, 3)) ∧ (decode cL_law 762 = .ok (.iconst 1, 1)) ∧ (decode cL_law 763 = .ok (.goto 4, 3)) ∧ (decode cL_law 766 = .ok (.iconst 0, 1)) ∧ (decode cL_law 767 = .ok (.invokevirtual 77, 3)) ∧ (decode cL_law 770 = .ok (.pop, 1)) ∧ (decode cL_law 771 = .ok (.aload_n 2, 1)) ∧ (decode cL_law 772 = .ok (.aload_n 0, 1)) ∧ (decode cL_law 773 = .ok (.iload_n 3, 1)) ∧ (decode cL_law 774 = .ok (.iconst 1, 1)) ∧ (decode cL_law 775 = .ok (.iadd, 1)) ∧ (decode cL_law 776 = .ok (.iaload, 1)) ∧ (decode cL_law 777 = .ok (.aload_n 0, 1)) ∧ (decode cL_law 778 = .ok (.iload_n 3, 1)) ∧ (decode cL_law 779 = .ok (.iconst 2, 1)) ∧ (decode cL_law 780 = .ok (.iadd, 1)) ∧ (decode cL_law 781 = .ok (.iaload, 1)) ∧ (decode cL_law 782 = .ok (.ifCond .eq 7, 3)) ∧ (decode cL_law 785 = .ok (.iconst 1, 1)) ∧ (decode cL_law 786 = .ok (.goto 4, 3)) ∧ (decode cL_law 789 = .ok (.iconst 0, 1)) ∧ (decode cL_law 790 = .ok (.invokevirtual 81, 3)) ∧ (decode cL_law 793 = .ok (.pop, 1)) := by decide +kernel
theorem dL_law_758 : decode cL_law 758 = .ok (.iaload, 1) := dLg_20.1
theorem dL_law_759 : decode cL_law 759 = .ok (.ifCond .eq 7, 3) := dLg_20.2.1
theorem dL_law_762 : decode cL_law 762 = .ok (.iconst 1, 1) := dLg_20.2.2.1
theorem dL_law_763 : decode cL_law 763 = .ok (.goto 4, 3) := dLg_20.2.2.2.1
theorem dL_law_766 : decode cL_law 766 = .ok (.iconst 0, 1) := dLg_20.2.2.2.2.1
theorem dL_law_767 : decode cL_law 767 = .ok (.invokevirtual 77, 3) := dLg_20.2.2.2.2.2.1
theorem dL_law_770 : decode cL_law 770 = .ok (.pop, 1) := dLg_20.2.2.2.2.2.2.1
theorem dL_law_771 : decode cL_law 771 = .ok (.aload_n 2, 1) := dLg_20.2.2.2.2.2.2.2.1
theorem dL_law_772 : decode cL_law 772 = .ok (.aload_n 0, 1) := dLg_20.2.2.2.2.2.2.2.2.1
theorem dL_law_773 : decode cL_law 773 = .ok (.iload_n 3, 1) := dLg_20.2.2.2.2.2.2.2.2.2.1
theorem dL_law_774 : decode cL_law 774 = .ok (.iconst 1, 1) := dLg_20.2.2.2.2.2.2.2.2.2.2.1
theorem dL_law_775 : decode cL_law 775 = .ok (.iadd, 1) := dLg_20.2.2.2.2.2.2.2.2.2.2.2.1
theorem dL_law_776 : decode cL_law 776 = .ok (.iaload, 1) := dLg_20.2.2.2.2.2.2.2.2.2.2.2.2.1
theorem dL_law_777 : decode cL_law 777 = .ok (.aload_n 0, 1) := dLg_20.2.2.2.2.2.2.2.2.2.2.2.2.2.1
theorem dL_law_778 : decode cL_law 778 = .ok (.iload_n 3, 1) := dLg_20.2.2.2.2.2.2.2.2.2.2.2.2.2.2.1
theorem dL_law_779 : decode cL_law 779 = .ok (.iconst 2, 1) := dLg_20.2.2.2.2.2.2.2.2.2.2.2.2.2.2.2.1
theorem dL_law_780 : decode cL_law 780 = .ok (.iadd, 1) := dLg_20.2.2.2.2.2.2.2.2.2.2.2.2.2.2.2.2.1
theorem dL_law_781 : decode cL_law 781 = .ok (.iaload, 1) := dLg_20.2.2.2.2.2.2.2.2.2.2.2.2.2.2.2.2.2.1
theorem dL_law_782 : decode cL_law 782 = .ok (.ifCond .eq 7, 3) := dLg_20.2.2.2.2.2.2.2.2.2.2.2.2.2.2.2.2.2.2.1
theorem dL_law_785 : decode cL_law 785 = .ok (.iconst 1, 1) := dLg_20.2.2.2.2.2.2.2.2.2.2.2.2.2.2.2.2.2.2.2.1
theorem dL_law_786 : decode cL_law 786 = .ok (.goto 4, 3) := dLg_20.2.2.2.2.2.2.2.2.2.2.2.2.2.2.2.2.2.2.2.2.1
theorem dL_law_789 : decode cL_law 789 = .ok (.iconst 0, 1) := dLg_20.2.2.2.2.2.2.2.2.2.2.2.2.2.2.2.2.2.2.2.2.2.1
theorem dL_law_790 : decode cL_law 790 = .ok (.invokevirtual 81, 3) := dLg_20.2.2.2.2.2.2.2.2.2.2.2.2.2.2.2.2.2.2.2.2.2.2.1
theorem dL_law_793 : decode cL_law 793 = .ok (.pop, 1) := dLg_20.2.2.2.2.2.2.2.2.2.2.2.2.2.2.2.2.2.2.2.2.2.2.2
theorem dLg_21 : (decode cL_law 794 = .ok (.goto 1120, 3)) ∧ (decode cL_law 797 = .ok (.aload_n 1, 1)) ∧ (decode cL_law 798 = .ok (.aload_n 0, 1)) ∧ (decode cL_law 799 = .ok (.iload_n 3, 1)) ∧ (decode cL_law 800 = .ok (.iconst 1, 1)) ∧ (decode cL_law 801 = .ok (.iadd, 1)) ∧ (decode cL_law 802 = .ok (.iaload, 1)) ∧ (decode cL_law 803 = .ok (.aload_n 0, 1)) ∧ (decode cL_law 804 = .ok (.iload_n 3, 1)) ∧ (decode cL_law 805 = .ok (.iconst 2, 1)) ∧ (decode cL_law 806 = .ok (.iadd, 1)) ∧ (decode cL_law 807 = .ok (.iaload, 1)) ∧ (decode cL_law 808 = .ok (.aload_n 0, 1)) ∧ (decode cL_law 809 = .ok (.iload_n 3, 1)) ∧ (decode cL_law 810 = .ok (.iconst 3, 1)) ∧ (decode cL_law 811 = .ok (.iadd, 1)) ∧ (decode cL_law 812 = .ok (.iaload, 1)) ∧ (decode cL_law 813 = .ok (.aload_n 0, 1)) ∧ (decode cL_law 814 = .ok (.iload_n 3, 1)) ∧ (decode cL_law 815 = .ok (.iconst 4, 1)) ∧ (decode cL_law 816 = .ok (.iadd, 1)) ∧ (decode cL_law 817 = .ok (.iaload, 1)) ∧ (decode cL_law 818 = .ok (.aload_n 0, 1)) ∧ (decode cL_law 819 = .ok (.iload_n 3, 1)) := by decide +kernel
theorem dL_law_794 : decode cL_law 794 = .ok (.goto 1120, 3) := dLg_21.1
theorem dL_law_797 : decode cL_law 797 = .ok (.aload_n 1, 1) := dLg_21.2.1
theorem dL_law_798 : decode cL_law 798 = .ok (.aload_n 0, 1) := dLg_21.2.2.1
theorem dL_law_799 : decode cL_law 799 = .ok (.iload_n 3, 1) := dLg_21.2.2.2.1
theorem dL_law_800 : decode cL_law 800 = .ok (.iconst 1, 1) := dLg_21.2.2.2.2.1
theorem dL_law_801 : decode cL_law 801 = .ok (.iadd, 1) := dLg_21.2.2.2.2.2.1
theorem dL_law_802 : decode cL_law 802 = .ok (.iaload, 1) := dLg_21.2.2.2.2.2.2.1
theorem dL_law_803 : decode cL_law 803 = .ok (.aload_n 0, 1) := dLg_21.2.2.2.2.2.2.2.1
theorem dL_law_804 : decode cL_law 804 = .ok (.iload_n 3, 1) := dLg_21.2.2.2.2.2.2.2.2.1
theorem dL_law_805 : decode cL_law 805 = .ok (.iconst 2, 1) := dLg_21.2.2.2.2.2.2.2.2.2.1
theorem dL_law_806 : decode cL_law 806 = .ok (.iadd, 1) := dLg_21.2.2.2.2.2.2.2.2.2.2.1
theorem dL_law_807 : decode cL_law 807 = .ok (.iaload, 1) := dLg_21.2.2.2.2.2.2.2.2.2.2.2.1
theorem dL_law_808 : decode cL_law 808 = .ok (.aload_n 0, 1) := dLg_21.2.2.2.2.2.2.2.2.2.2.2.2.1
theorem dL_law_809 : decode cL_law 809 = .ok (.iload_n 3, 1) := dLg_21.2.2.2.2.2.2.2.2.2.2.2.2.2.1
theorem dL_law_810 : decode cL_law 810 = .ok (.iconst 3, 1) := dLg_21.2.2.2.2.2.2.2.2.2.2.2.2.2.2.1
theorem dL_law_811 : decode cL_law 811 = .ok (.iadd, 1) := dLg_21.2.2.2.2.2.2.2.2.2.2.2.2.2.2.2.1
theorem dL_law_812 : decode cL_law 812 = .ok (.iaload, 1) := dLg_21.2.2.2.2.2.2.2.2.2.2.2.2.2.2.2.2.1
theorem dL_law_813 : decode cL_law 813 = .ok (.aload_n 0, 1) := dLg_21.2.2.2.2.2.2.2.2.2.2.2.2.2.2.2.2.2.1
theorem dL_law_814 : decode cL_law 814 = .ok (.iload_n 3, 1) := dLg_21.2.2.2.2.2.2.2.2.2.2.2.2.2.2.2.2.2.2.1
theorem dL_law_815 : decode cL_law 815 = .ok (.iconst 4, 1) := dLg_21.2.2.2.2.2.2.2.2.2.2.2.2.2.2.2.2.2.2.2.1
theorem dL_law_816 : decode cL_law 816 = .ok (.iadd, 1) := dLg_21.2.2.2.2.2.2.2.2.2.2.2.2.2.2.2.2.2.2.2.2.1
theorem dL_law_817 : decode cL_law 817 = .ok (.iaload, 1) := dLg_21.2.2.2.2.2.2.2.2.2.2.2.2.2.2.2.2.2.2.2.2.2.1
theorem dL_law_818 : decode cL_law 818 = .ok (.aload_n 0, 1) := dLg_21.2.2.2.2.2.2.2.2.2.2.2.2.2.2.2.2.2.2.2.2.2.2.1
theorem dL_law_819 : decode cL_law 819 = .ok (.iload_n 3, 1) := dLg_21.2.2.2.2.2.2.2.2.2.2.2.2.2.2.2.2.2.2.2.2.2.2.2
theorem dLg_22 : (decode cL_law 820 = .ok (.iconst 5, 1)) ∧ (decode cL_law 821 = .ok (.iadd, 1)) ∧ (decode cL_law 822 = .ok (.iaload, 1)) ∧ (decode cL_law 823 = .ok (.invokevirtual 82, 3)) ∧ (decode cL_law 826 = .ok (.pop, 1)) ∧ (decode cL_law 827 = .ok (.aload_n 2, 1)) ∧ (decode cL_law 828 = .ok (.aload_n 0, 1)) ∧ (decode cL_law 829 = .ok (.iload_n 3, 1)) ∧ (decode cL_law 830 = .ok (.iconst 1, 1)) ∧ (decode cL_law 831 = .ok (.iadd, 1)) ∧ (decode cL_law 832 = .ok (.iaload, 1)) ∧ (decode cL_law 833 = .ok (.aload_n 0, 1)) ∧ (decode cL_law 834 = .ok (.iload_n 3, 1)) ∧ (decode cL_law 835 = .ok (.iconst 2, 1)) ∧ (decode cL_law 836 = .ok (.iadd, 1)) ∧ (decode cL_law 837 = .ok (.iaload, 1)) ∧ (decode cL_law 838 = .ok (.aload_n 0, 1)) ∧ (decode cL_law 839 = .ok (.iload_n 3, 1)) ∧ (decode cL_law 840 = .ok (.iconst 3, 1)) ∧ (decode cL_law 841 = .ok (.iadd, 1)) ∧ (decode cL_law 842 = .ok (.iaload, 1)) ∧ (decode cL_law 843 = .ok (.aload_n 0, 1)) ∧ (decode cL_law 844 = .ok (.iload_n 3, 1)) ∧ (decode cL_law 845 = .ok (.iconst 4, 1)) := by decide +kernel
theorem dL_law_820 : decode cL_law 820 = .ok (.iconst 5, 1) := dLg_22.1
theorem dL_law_821 : decode cL_law 821 = .ok (.iadd, 1) := dLg_22.2.1
theorem dL_law_822 : decode cL_law 822 = .ok (.iaload, 1) := dLg_22.2.2.1
theorem dL_law_823 : decode cL_law 823 = .ok (.invokevirtual 82, 3) := dLg_22.2.2.2.1
theorem dL_law_826 : decode cL_law 826 = .ok (.pop, 1) := dLg_22.2.2.2.2.1
theorem dL_law_827 : decode cL_law 827 = .ok (.aload_n 2, 1) := dLg_22.2.2.2.2.2.1
theorem dL_law_828 : decode cL_law 828 = .ok (.aload_n 0, 1) := dLg_22.2.2.2.2.2.2.1
theorem dL_law_829 : decode cL_law 829 = .ok (.iload_n 3, 1) := dLg_22.2.2.2.2.2.2.2.1
theorem dL_law_830 : decode cL_law 830 = .ok (.iconst 1, 1) := dLg_22.2.2.2.2.2.2.2.2.1
theorem dL_law_831 : decode cL_law 831 = .ok (.iadd, 1) := dLg_22.2.2.2.2.2.2.2.2.2.1
theorem dL_law_832 : decode cL_law 832 = .ok (.iaload, 1) := dLg_22.2.2.2.2.2.2.2.2.2.2.1
theorem dL_law_833 : decode cL_law 833 = .ok (.aload_n 0, 1) := dLg_22.2.2.2.2.2.2.2.2.2.2.2.1
theorem dL_law_834 : decode cL_law 834 = .ok (.iload_n 3, 1) := dLg_22.2.2.2.2.2.2.2.2.2.2.2.2.1
theorem dL_law_835 : decode cL_law 835 = .ok (.iconst 2, 1) := dLg_22.2.2.2.2.2.2.2.2.2.2.2.2.2.1
theorem dL_law_836 : decode cL_law 836 = .ok (.iadd, 1) := dLg_22.2.2.2.2.2.2.2.2.2.2.2.2.2.2.1
theorem dL_law_837 : decode cL_law 837 = .ok (.iaload, 1) := dLg_22.2.2.2.2.2.2.2.2.2.2.2.2.2.2.2.1
theorem dL_law_838 : decode cL_law 838 = .ok (.aload_n 0, 1) := dLg_22.2.2.2.2.2.2.2.2.2.2.2.2.2.2.2.2.1
theorem dL_law_839 : decode cL_law 839 = .ok (.iload_n 3, 1) := dLg_22.2.2.2.2.2.2.2.2.2.2.2.2.2.2.2.2.2.1
theorem dL_law_840 : decode cL_law 840 = .ok (.iconst 3, 1) := dLg_22.2.2.2.2.2.2.2.2.2.2.2.2.2.2.2.2.2.2.1
theorem dL_law_841 : decode cL_law 841 = .ok (.iadd, 1) := dLg_22.2.2.2.2.2.2.2.2.2.2.2.2.2.2.2.2.2.2.2.1
theorem dL_law_842 : decode cL_law 842 = .ok (.iaload, 1) := dLg_22.2.2.2.2.2.2.2.2.2.2.2.2.2.2.2.2.2.2.2.2.1
theorem dL_law_843 : decode cL_law 843 = .ok (.aload_n 0, 1) := dLg_22.2.2.2.2.2.2.2.2.2.2.2.2.2.2.2.2.2.2.2.2.2.1
theorem dL_law_844 : decode cL_law 844 = .ok (.iload_n 3, 1) := dLg_22.2.2.2.2.2.2.2.2.2.2.2.2.2.2.2.2.2.2.2.2.2.2.1
theorem dL_law_845 : decode cL_law 845 = .ok (.iconst 4, 1) := dLg_22.2.2.2.2.2.2.2.2.2.2.2.2.2.2.2.2.2.2.2.2.2.2.2
theorem dLg_23 : (decode cL_law 846 = .ok (.iadd, 1)) ∧ (decode cL_law 847 = .ok (.iaload, 1)) ∧ (decode cL_law 848 = .ok (.aload_n 0, 1)) ∧ (decode cL_law 849 = .ok (.iload_n 3, 1)) ∧ (decode cL_law 850 = .ok (.iconst 5, 1)) ∧ (decode cL_law 851 = .ok (.iadd, 1)) ∧ (decode cL_law 852 = .ok (.iaload, 1)) ∧ (decode cL_law 853 = .ok (.invokevirtual 85, 3)) ∧ (decode cL_law 856 = .ok (.pop, 1)) ∧ (decode cL_law 857 = .ok (.goto 1057, 3)) ∧ (decode cL_law 860 = .ok (.aload_n 1, 1)) ∧ (decode cL_law 861 = .ok (.aload_n 0, 1)) ∧ (decode cL_law 862 = .ok (.iload_n 3, 1)) ∧ (decode cL_law 863 = .ok (.iconst 1, 1)) ∧ (decode cL_law 864 = .ok (.iadd, 1)) ∧ (decode cL_law 865 = .ok (.iaload, 1)) ∧ (decode cL_law 866 = .ok (.aload_n 0, 1)) ∧ (decode cL_law 867 = .ok (.iload_n 3, 1)) ∧ (decode cL_law 868 = .ok (.iconst 2, 1)) ∧ (decode cL_law 869 = .ok (.iadd, 1)) ∧ (decode cL_law 870 = .ok (.iaload, 1)) ∧ (decode cL_law 871 = .ok (.aload_n 0, 1)) ∧ (decode cL_law 872 = .ok (.iload_n 3, 1)) ∧ (decode cL_law 873 = .ok (.iconst 3, 1)) := by decide +kernel
theorem dL_law_846 : decode cL_law 846 = .ok (.iadd, 1) := dLg_23.1
theorem dL_law_847 : decode cL_law 847 = .ok (.iaload, 1) := dLg_23.2.1
theorem dL_law_848 : decode cL_law 848 = .ok (.aload_n 0, 1) := dLg_23.2.2.1
theorem dL_law_849 : decode cL_law 849 = .ok (.iload_n 3, 1) := dLg_23.2.2.2.1
theorem dL_law_850 : decode cL_law 850 = .ok (.iconst 5, 1) := dLg_23.2.2.2.2.1
theorem dL_law_851 : decode cL_law 851 = .ok (.iadd, 1) := dLg_23.2.2.2.2.2.1
theorem dL_law_852 : decode cL_law 852 = .ok (.iaload, 1) := dLg_23.2.2.2.2.2.2.1
theorem dL_law_853 : decode cL_law 853 = .ok (.invokevirtual 85, 3) := dLg_23.2.2.2.2.2.2.2.1
theorem dL_law_856 : decode cL_law 856 = .ok (.pop, 1) := dLg_23.2.2.2.2.2.2.2.2.1
theorem dL_law_857 : decode cL_law 857 = .ok (.goto 1057, 3) := dLg_23.2.2.2.2.2.2.2.2.2.1
theorem dL_law_860 : decode cL_law 860 = .ok (.aload_n 1, 1) := dLg_23.2.2.2.2.2.2.2.2.2.2.1
theorem dL_law_861 : decode cL_law 861 = .ok (.aload_n 0, 1) := dLg_23.2.2.2.2.2.2.2.2.2.2.2.1
theorem dL_law_862 : decode cL_law 862 = .ok (.iload_n 3, 1) := dLg_23.2.2.2.2.2.2.2.2.2.2.2.2.1
theorem dL_law_863 : decode cL_law 863 = .ok (.iconst 1, 1) := dLg_23.2.2.2.2.2.2.2.2.2.2.2.2.2.1
theorem dL_law_864 : decode cL_law 864 = .ok (.iadd, 1) := dLg_23.2.2.2.2.2.2.2.2.2.2.2.2.2.2.1
theorem dL_law_865 : decode cL_law 865 = .ok (.iaload, 1) := dLg_23.2.2.2.2.2.2.2.2.2.2.2.2.2.2.2.1
theorem dL_law_866 : decode cL_law 866 = .ok (.aload_n 0, 1) := dLg_23.2.2.2.2.2.2.2.2.2.2.2.2.2.2.2.2.1
theorem dL_law_867 : decode cL_law 867 = .ok (.iload_n 3, 1) := dLg_23.2.2.2.2.2.2.2.2.2.2.2.2.2.2.2.2.2.1
theorem dL_law_868 : decode cL_law 868 = .ok (.iconst 2, 1) := dLg_23.2.2.2.2.2.2.2.2.2.2.2.2.2.2.2.2.2.2.1
theorem dL_law_869 : decode cL_law 869 = .ok (.iadd, 1) := dLg_23.2.2.2.2.2.2.2.2.2.2.2.2.2.2.2.2.2.2.2.1
theorem dL_law_870 : decode cL_law 870 = .ok (.iaload, 1) := dLg_23.2.2.2.2.2.2.2.2.2.2.2.2.2.2.2.2.2.2.2.2.1
theorem dL_law_871 : decode cL_law 871 = .ok (.aload_n 0, 1) := dLg_23.2.2.2.2.2.2.2.2.2.2.2.2.2.2.2.2.2.2.2.2.2.1
theorem dL_law_872 : decode cL_law 872 = .ok (.iload_n 3, 1) := dLg_23.2.2.2.2.2.2.2.2.2.2.2.2.2.2.2.2.2.2.2.2.2.2.1
theorem dL_law_873 : decode cL_law 873 = .ok (.iconst 3, 1) := dLg_23.2.2.2.2.2.2.2.2.2.2.2.2.2.2.2.2.2.2.2.2.2.2.2
theorem dLg_24 : (decode cL_law 874 = .ok (.iadd, 1)) ∧ (decode cL_law 875 = .ok (.iaload, 1)) ∧ (decode cL_law 876 = .ok (.aload_n 0, 1)) ∧ (decode cL_law 877 = .ok (.iload_n 3, 1)) ∧ (decode cL_law 878 = .ok (.iconst 4, 1)) ∧ (decode cL_law 879 = .ok (.iadd, 1)) ∧ (decode cL_law 880 = .ok (.iaload, 1)) ∧ (decode cL_law 881 = .ok (.aload_n 0, 1)) ∧ (decode cL_law 882 = .ok (.iload_n 3, 1)) ∧ (decode cL_law 883 = .ok (.iconst 5, 1)) ∧ (decode cL_law 884 = .ok (.iadd, 1)) ∧ (decode cL_law 885 = .ok (.iaload, 1)) ∧ (decode cL_law 886 = .ok (.invokevirtual 86, 3)) ∧ (decode cL_law 889 = .ok (.pop, 1)) ∧ (decode cL_law 890 = .ok (.aload_n 2, 1)) ∧ (decode cL_law 891 = .ok (.aload_n 0, 1)) ∧ (decode cL_law 892 = .ok (.iload_n 3, 1)) ∧ (decode cL_law 893 = .ok (.iconst 1, 1)) ∧ (decode cL_law 894 = .ok (.iadd, 1)) ∧ (decode cL_law 895 = .ok (.iaload, 1)) ∧ (decode cL_law 896 = .ok (.aload_n 0, 1)) ∧ (decode cL_law 897 = .ok (.iload_n 3, 1)) ∧ (decode cL_law 898 = .ok (.iconst 2, 1)) ∧ (decode cL_law 899 = .ok (.iadd, 1)) := by decide +kernel
theorem dL_law_874 : decode cL_law 874 = .ok (.iadd, 1) := dLg_24.1
theorem dL_law_875 : decode cL_law 875 = .ok (.iaload, 1) := dLg_24.2.1
theorem dL_law_876 : decode cL_law 876 = .ok (.aload_n 0, 1) := dLg_24.2.2.1
theorem dL_law_877 : decode cL_law 877 = .ok (.iload_n 3, 1) := dLg_24.2.2.2.1
theorem dL_law_878 : decode cL_law 878 = .ok (.iconst 4, 1) := dLg_24.2.2.2.2.1
theorem dL_law_879 : decode cL_law 879 = .ok (.iadd, 1) := dLg_24.2.2.2.2.2.1
theorem dL_law_880 : decode cL_law 880 = .ok (.iaload, 1) := dLg_24.2.2.2.2.2.2.1
theorem dL_law_881 : decode cL_law 881 = .ok (.aload_n 0, 1) := dLg_24.2.2.2.2.2.2.2.1
theorem dL_law_882 : decode cL_law 882 = .ok (.iload_n 3, 1) := dLg_24.2.2.2.2.2.2.2.2.1
theorem dL_law_883 : decode cL_law 883 = .ok (.iconst 5, 1) := dLg_24.2.2.2.2.2.2.2.2.2.1
theorem dL_law_884 : decode cL_law 884 = .ok (.iadd, 1) := dLg_24.2.2.2.2.2.2.2.2.2.2.1
theorem dL_law_885 : decode cL_law 885 = .ok (.iaload, 1) := dLg_24.2.2.2.2.2.2.2.2.2.2.2.1
theorem dL_law_886 : decode cL_law 886 = .ok (.invokevirtual 86, 3) := dLg_24.2.2.2.2.2.2.2.2.2.2.2.2.1
theorem dL_law_889 : decode cL_law 889 = .ok (.pop, 1) := dLg_24.2.2.2.2.2.2.2.2.2.2.2.2.2.1
theorem dL_law_890 : decode cL_law 890 = .ok (.aload_n 2, 1) := dLg_24.2.2.2.2.2.2.2.2.2.2.2.2.2.2.1
theorem dL_law_891 : decode cL_law 891 = .ok (.aload_n 0, 1) := dLg_24.2.2.2.2.2.2.2.2.2.2.2.2.2.2.2.1
theorem dL_law_892 : decode cL_law 892 = .ok (.iload_n 3, 1) := dLg_24.2.2.2.2.2.2.2.2.2.2.2.2.2.2.2.2.1
theorem dL_law_893 : decode cL_law 893 = .ok (.iconst 1, 1) := dLg_24.2.2.2.2.2.2.2.2.2.2.2.2.2.2.2.2.2.1
theorem dL_law_894 : decode cL_law 894 = .ok (.iadd, 1) := dLg_24.2.2.2.2.2.2.2.2.2.2.2.2.2.2.2.2.2.2.1
theorem dL_law_895 : decode cL_law 895 = .ok (.iaload, 1) := dLg_24.2.2.2.2.2.2.2.2.2.2.2.2.2.2.2.2.2.2.2.1
theorem dL_law_896 : decode cL_law 896 = .ok (.aload_n 0, 1) := dLg_24.2.2.2.2.2.2.2.2.2.2.2.2.2.2.2.2.2.2.2.2.1
theorem dL_law_897 : decode cL_law 897 = .ok (.iload_n 3, 1) := dLg_24.2.2.2.2.2.2.2.2.2.2.2.2.2.2.2.2.2.2.2.2.2.1
theorem dL_law_898 : decode cL_law 898 = .ok (.iconst 2, 1) := dLg_24.2.2.2.2.2.2.2.2.2.2.2.2.2.2.2.2.2.2.2.2.2.2.1
theorem dL_law_899 : decode cL_law 899 = .ok (.iadd, 1) := dLg_24.2.2.2.2.2.2.2.2.2.2.2.2.2.2.2.2.2.2.2.2.2.2.2
theorem dLg_25 : (decode cL_law 900 = .ok (.iaload, 1)) ∧ (decode cL_law 901 = .ok (.aload_n 0, 1)) ∧ (decode cL_law 902 = .ok (.iload_n 3, 1)) ∧ (decode cL_law 903 = .ok (.iconst 3, 1)) ∧ (decode cL_law 904 = .ok (.iadd, 1)) ∧ (decode cL_law 905 = .ok (.iaload, 1)) ∧ (decode cL_law 906 = .ok (.aload_n 0, 1)) ∧ (decode cL_law 907 = .ok (.iload_n 3, 1)) ∧ (decode cL_law 908 = .ok (.iconst 4, 1)) ∧ (decode cL_law 909 = .ok (.iadd, 1)) ∧ (decode cL_law 910 = .ok (.iaload, 1)) ∧ (decode cL_law 911 = .ok (.aload_n 0, 1)) ∧ (decode cL_law 912 = .ok (.iload_n 3, 1)) ∧ (decode cL_law 913 = .ok (.iconst 5, 1)) ∧ (decode cL_law 914 = .ok (.iadd, 1)) ∧ (decode cL_law 915 = .ok (.iaload, 1)) ∧ (decode cL_law 916 = .ok (.invokevirtual 89, 3)) ∧ (decode cL_law 919 = .ok (.pop, 1)) ∧ (decode cL_law 920 = .ok (.goto 994, 3)) ∧ (decode cL_law 923 = .ok (.aload_n 1, 1)) ∧ (decode cL_law 924 = .ok (.aload_n 0, 1)) ∧ (decode cL_law 925 = .ok (.iload_n 3, 1)) ∧ (decode cL_law 926 = .ok (.iconst 1, 1)) ∧ (decode cL_law 927 = .ok (.iadd, 1)) := by decide +kernel
theorem dL_law_900 : decode cL_law 900 = .ok (.iaload, 1) := dLg_25.1
theorem dL_law_901 : decode cL_law 901 = .ok (.aload_n 0, 1) := dLg_25.2.1
theorem dL_law_902 : decode cL_law 902 = .ok (.iload_n 3, 1) := dLg_25.2.2.1
theorem dL_law_903 : decode cL_law 903 = .ok (.iconst 3, 1) := dLg_25.2.2.2.1
theorem dL_law_904 : decode cL_law 904 = .ok (.iadd, 1) := dLg_25.2.2.2.2.1
theorem dL_law_905 : decode cL_law 905 = .ok (.iaload, 1) := dLg_25.2.2.2.2.2.1
theorem dL_law_906 : decode cL_law 906 = .ok (.aload_n 0, 1) := dLg_25.2.2.2.2.2.2.1
theorem dL_law_907 : decode cL_law 907 = .ok (.iload_n 3, 1) := dLg_25.2.2.2.2.2.2.2.1
theorem dL_law_908 : decode cL_law 908 = .ok (.iconst 4, 1) := dLg_25.2.2.2.2.2.2.2.2.1
theorem dL_law_909 : decode cL_law 909 = .ok (.iadd, 1) := dLg_25.2.2.2.2.2.2.2.2.2.1
theorem dL_law_910 : decode cL_law 910 = .ok (.iaload, 1) := dLg_25.2.2.2.2.2.2.2.2.2.2.1
theorem dL_law_911 : decode cL_law 911 = .ok (.aload_n 0, 1) := dLg_25.2.2.2.2.2.2.2.2.2.2.2.1
theorem dL_law_912 : decode cL_law 912 = .ok (.iload_n 3, 1) := dLg_25.2.2.2.2.2.2.2.2.2.2.2.2.1
theorem dL_law_913 : decode cL_law 913 = .ok (.iconst 5, 1) := dLg_25.2.2.2.2.2.2.2.2.2.2.2.2.2.1
theorem dL_law_914 : decode cL_law 914 = .ok (.iadd, 1) := dLg_25.2.2.2.2.2.2.2.2.2.2.2.2.2.2.1
theorem dL_law_915 : decode cL_law 915 = .ok (.iaload, 1) := dLg_25.2.2.2.2.2.2.2.2.2.2.2.2.2.2.2.1
theorem dL_law_916 : decode cL_law 916 = .ok (.invokevirtual 89, 3) := dLg_25.2.2.2.2.2.2.2.2.2.2.2.2.2.2.2.2.1
theorem dL_law_919 : decode cL_law 919 = .ok (.pop, 1) := dLg_25.2.2.2.2.2.2.2.2.2.2.2.2.2.2.2.2.2.1
theorem dL_law_920 : decode cL_law 920 = .ok (.goto 994, 3) := dLg_25.2.2.2.2.2.2.2.2.2.2.2.2.2.2.2.2.2.2.1
theorem dL_law_923 : decode cL_law 923 = .ok (.aload_n 1, 1) := dLg_25.2.2.2.2.2.2.2.2.2.2.2.2.2.2.2.2.2.2.2.1
theorem dL_law_924 : decode cL_law 924 = .ok (.aload_n 0, 1) := dLg_25.2.2.2.2.2.2.2.2.2.2.2.2.2.2.2.2.2.2.2.2.1
theorem dL_law_925 : decode cL_law 925 = .ok (.iload_n 3, 1) := dLg_25.2.2.2.2.2.2.2.2.2.2.2.2.2.2.2.2.2.2.2.2.2.1
theorem dL_law_926 : decode cL_law 926 = .ok (.iconst 1, 1) := dLg_25.2.2.2.2.2.2.2.2.2.2.2.2.2.2.2.2.2.2.2.2.2.2.1
theorem dL_law_927 : decode cL_law 927 = .ok (.iadd, 1) := dLg_25.2.2.2.2.2.2.2.2.2.2.2.2.2.2.2.2.2.2.2.2.2.2.2
theorem dLg_26 : (decode cL_law 928 = .ok (.iaload, 1)) ∧ (decode cL_law 929 = .ok (.aload_n 0, 1)) ∧ (decode cL_law 930 = .ok (.iload_n 3, 1)) ∧ (decode cL_law 931 = .ok (.iconst 2, 1)) ∧ (decode cL_law 932 = .ok (.iadd, 1)) ∧ (decode cL_law 933 = .ok (.iaload, 1)) ∧ (decode cL_law 934 = .ok (.aload_n 0, 1)) ∧ (decode cL_law 935 = .ok (.iload_n 3, 1)) ∧ (decode cL_law 936 = .ok (.iconst 3, 1)) ∧ (decode cL_law 937 = .ok (.iadd, 1)) ∧ (decode cL_law 938 = .ok (.iaload, 1)) ∧ (decode cL_law 939 = .ok (.aload_n 0, 1)) ∧ (decode cL_law 940 = .ok (.iload_n 3, 1)) ∧ (decode cL_law 941 = .ok (.iconst 4, 1)) ∧ (decode cL_law 942 = .ok (.iadd, 1)) ∧ (decode cL_law 943 = .ok (.iaload, 1)) ∧ (decode cL_law 944 = .ok (.aload_n 0, 1)) ∧ (decode cL_law 945 = .ok (.iload_n 3, 1)) ∧ (decode cL_law 946 = .ok (.iconst 5, 1)) ∧ (decode cL_law 947 = .ok (.iadd, 1)) ∧ (decode cL_law 948 = .ok (.iaload, 1)) ∧ (decode cL_law 949 = .ok (.invokevirtual 90, 3)) ∧ (decode cL_law 952 = .ok (.pop, 1)) ∧ (decode cL_law 953 = .ok (.aload_n 2, 1)) := by decide +kernel
theorem dL_law_928 : decode cL_law 928 = .ok (.iaload, 1) := dLg_26.1
theorem dL_law_929 : decode cL_law 929 = .ok (.aload_n 0, 1) := dLg_26.2.1
theorem dL_law_930 : decode cL_law 930 = .ok (.iload_n 3, 1) := dLg_26.2.2.1
theorem dL_law_931 : decode cL_law 931 = .ok (.iconst 2, 1) := dLg_26.2.2.2.1
theorem dL_law_932 : decode cL_law 932 = .ok (.iadd, 1) := dLg_26.2.2.2.2.1
theorem dL_law_933 : decode cL_law 933 = .ok (.iaload, 1) := dLg_26.2.2.2.2.2.1
theorem dL_law_934 : decode cL_law 934 = .ok (.aload_n 0, 1) := dLg_26.2.2.2.2.2.2.1
theorem dL_law_935 : decode cL_law 935 = .ok (.iload_n 3, 1) := dLg_26.2.2.2.2.2.2.2.1
theorem dL_law_936 : decode cL_law 936 = .ok (.iconst 3, 1) := dLg_26.2.2.2.2.2.2.2.2.1
theorem dL_law_937 : decode cL_law 937 = .ok (.iadd, 1) := dLg_26.2.2.2.2.2.2.2.2.2.1
theorem dL_law_938 : decode cL_law 938 = .ok (.iaload, 1) := dLg_26.2.2.2.2.2.2.2.2.2.2.1
theorem dL_law_939 : decode cL_law 939 = .ok (.aload_n 0, 1) := dLg_26.2.2.2.2.2.2.2.2.2.2.2.1
theorem dL_law_940 : decode cL_law 940 = .ok (.iload_n 3, 1) := dLg_26.2.2.2.2.2.2.2.2.2.2.2.2.1
theorem dL_law_941 : decode cL_law 941 = .ok (.iconst 4, 1) := dLg_26.2.2.2.2.2.2.2.2.2.2.2.2.2.1
theorem dL_law_942 : decode cL_law 942 = .ok (.iadd, 1) := dLg_26.2.2.2.2.2.2.2.2.2.2.2.2.2.2.1
theorem dL_law_943 : decode cL_law 943 = .ok (.iaload, 1) := dLg_26.2.2.2.2.2.2.2.2.2.2.2.2.2.2.2.1
theorem dL_law_944 : decode cL_law 944 = .ok (.aload_n 0, 1) := dLg_26.2.2.2.2.2.2.2.2.2.2.2.2.2.2.2.2.1
theorem dL_law_945 : decode cL_law 945 = .ok (.iload_n 3, 1) := dLg_26.2.2.2.2.2.2.2.2.2.2.2.2.2.2.2.2.2.1
theorem dL_law_946 : decode cL_law 946 = .ok (.iconst 5, 1) := dLg_26.2.2.2.2.2.2.2.2.2.2.2.2.2.2.2.2.2.2.1
theorem dL_law_947 : decode cL_law 947 = .ok (.iadd, 1) := dLg_26.2.2.2.2.2.2.2.2.2.2.2.2.2.2.2.2.2.2.2.1
theorem dL_law_948 : decode cL_law 948 = .ok (.iaload, 1) := dLg_26.2.2.2.2.2.2.2.2.2.2.2.2.2.2.2.2.2.2.2.2.1
theorem dL_law_949 : decode cL_law 949 = .ok (.invokevirtual 90, 3) := dLg_26.2.2.2.2.2.2.2.2.2.2.2.2.2.2.2.2.2.2.2.2.2.1
theorem dL_law_952 : decode cL_law 952 = .ok (.pop, 1) := dLg_26.2.2.2.2.2.2.2.2.2.2.2.2.2.2.2.2.2.2.2.2.2.2.1
theorem dL_law_953 : decode cL_law 953 = .ok (.aload_n 2, 1) := dLg_26.2.2.2.2.2.2.2.2.2.2.2.2.2.2.2.2.2.2.2.2.2.2.2
theorem dLg_27 : (decode cL_law 954 = .ok (.aload_n 0, 1)) ∧ (decode cL_law 955 = .ok (.iload_n 3, 1)) ∧ (decode cL_law 956 = .ok (.iconst 1, 1)) ∧ (decode cL_law 957 = .ok (.iadd, 1)) ∧ (decode cL_law 958 = .ok (.iaload, 1)) ∧ (decode cL_law 959 = .ok (.aload_n 0, 1)) ∧ (decode cL_law 960 = .ok (.iload_n 3, 1)) ∧ (decode cL_law 961 = .ok (.iconst 2, 1)) ∧ (decode cL_law 962 = .ok (.iadd, 1)) ∧ (decode cL_law 963 = .ok (.iaload, 1)) ∧ (decode cL_law 964 = .ok (.aload_n 0, 1)) ∧ (decode cL_law 965 = .ok (.iload_n 3, 1)) ∧ (decode cL_law 966 = .ok (.iconst 3, 1)) ∧ (decode cL_law 967 = .ok (.iadd, 1)) ∧ (decode cL_law 968 = .ok (.iaload, 1)) ∧ (decode cL_law 969 = .ok (.aload_n 0, 1)) ∧ (decode cL_law 970 = .ok (.iload_n 3, 1)) ∧ (decode cL_law 971 = .ok (.iconst 4, 1)) ∧ (decode cL_law 972 = .ok (.iadd, 1)) ∧ (decode cL_law 973 = .ok (.iaload, 1)) ∧ (decode cL_law 974 = .ok (.aload_n 0, 1)) ∧ (decode cL_law 975 = .ok (.iload_n 3, 1)) ∧ (decode cL_law 976 = .ok (.iconst 5, 1)) ∧ (decode cL_law 977 = .ok (.iadd, 1)) := by decide +kernel
theorem dL_law_954 : decode cL_law 954 = .ok (.aload_n 0, 1) := dLg_27.1
theorem dL_law_955 : decode cL_law 955 = .ok (.iload_n 3, 1) := dLg_27.2.1
theorem dL_law_956 : decode cL_law 956 = .ok (.iconst 1, 1) := dLg_27.2.2.1
theorem dL_law_957 : decode cL_law 957 = .ok (.iadd, 1) := dLg_27.2.2.2.1
theorem dL_law_958 : decode cL_law 958 = .ok (.iaload, 1) := dLg_27.2.2.2.2.1
theorem dL_law_959 : decode cL_law 959 = .ok (.aload_n 0, 1) := dLg_27.2.2.2.2.2.1
theorem dL_law_960 : decode cL_law 960 = .ok (.iload_n 3, 1) := dLg_27.2.2.2.2.2.2.1
theorem dL_law_961 : decode cL_law 961 = .ok (.iconst 2, 1) := dLg_27.2.2.2.2.2.2.2.1
theorem dL_law_962 : decode cL_law 962 = .ok (.iadd, 1) := dLg_27.2.2.2.2.2.2.2.2.1
theorem dL_law_963 : decode cL_law 963 = .ok (.iaload, 1) := dLg_27.2.2.2.2.2.2.2.2.2.1
theorem dL_law_964 : decode cL_law 964 = .ok (.aload_n 0, 1) := dLg_27.2.2.2.2.2.2.2.2.2.2.1
theorem dL_law_965 : decode cL_law 965 = .ok (.iload_n 3, 1) := dLg_27.2.2.2.2.2.2.2.2.2.2.2.1
theorem dL_law_966 : decode cL_law 966 = .ok (.iconst 3, 1) := dLg_27.2.2.2.2.2.2.2.2.2.2.2.2.1
theorem dL_law_967 : decode cL_law 967 = .ok (.iadd, 1) := dLg_27.2.2.2.2.2.2.2.2.2.2.2.2.2.1
theorem dL_law_968 : decode cL_law 968 = .ok (.iaload, 1) := dLg_27.2.2.2.2.2.2.2.2.2.2.2.2.2.2.1
theorem dL_law_969 : decode cL_law 969 = .ok (.aload_n 0, 1) := dLg_27.2.2.2.2.2.2.2.2.2.2.2.2.2.2.2.1
theorem dL_law_970 : decode cL_law 970 = .ok (.iload_n 3, 1) := dLg_27.2.2.2.2.2.2.2.2.2.2.2.2.2.2.2.2.1
theorem dL_law_971 : decode cL_law 971 = .ok (.iconst 4, 1) := dLg_27.2.2.2.2.2.2.2.2.2.2.2.2.2.2.2.2.2.1
theorem dL_law_972 : decode cL_law 972 = .ok (.iadd, 1) := dLg_27.2.2.2.2.2.2.2.2.2.2.2.2.2.2.2.2.2.2.1
theorem dL_law_973 : decode cL_law 973 = .ok (.iaload, 1) := dLg_27.2.2.2.2.2.2.2.2.2.2.2.2.2.2.2.2.2.2.2.1
theorem dL_law_974 : decode cL_law 974 = .ok (.aload_n 0, 1) := dLg_27.2.2.2.2.2.2.2.2.2.2.2.2.2.2.2.2.2.2.2.2.1
theorem dL_law_975 : decode cL_law 975 = .ok (.iload_n 3, 1) := dLg_27.2.2.2.2.2.2.2.2.2.2.2.2.2.2.2.2.2.2.2.2.2.1
theorem dL_law_976 : decode cL_law 976 = .ok (.iconst 5, 1) := dLg_27.2.2.2.2.2.2.2.2.2.2.2.2.2.2.2.2.2.2.2.2.2.2.1
theorem dL_law_977 : decode cL_law 977 = .ok (.iadd, 1) := dLg_27.2.2.2.2.2.2.2.2.2.2.2.2.2.2.2.2.2.2.2.2.2.2.2
theorem dLg_28 : (decode cL_law 978 = .ok (.iaload, 1)) ∧ (decode cL_law 979 = .ok (.invokevirtual 93, 3)) ∧ (decode cL_law 982 = .ok (.pop, 1)) ∧ (decode cL_law 983 = .ok (.goto 931, 3)) ∧ (decode cL_law 986 = .ok (.aload_n 1, 1)) ∧ (decode cL_law 987 = .ok (.aload_n 0, 1)) ∧ (decode cL_law 988 = .ok (.iload_n 3, 1)) ∧ (decode cL_law 989 = .ok (.iconst 1, 1)) ∧ (decode cL_law 990 = .ok (.iadd, 1)) ∧ (decode cL_law 991 = .ok (.iaload, 1)) ∧ (decode cL_law 992 = .ok (.invokevirtual 94, 3)) ∧ (decode cL_law 995 = .ok (.pop, 1)) ∧ (decode cL_law 996 = .ok (.aload_n 2, 1)) ∧ (decode cL_law 997 = .ok (.aload_n 0, 1)) ∧ (decode cL_law 998 = .ok (.iload_n 3, 1)) ∧ (decode cL_law 999 = .ok (.iconst 1, 1)) ∧ (decode cL_law 1000 = .ok (.iadd, 1)) ∧ (decode cL_law 1001 = .ok (.iaload, 1)) ∧ (decode cL_law 1002 = .ok (.invokevirtual 97, 3)) ∧ (decode cL_law 1005 = .ok (.pop, 1)) ∧ (decode cL_law 1006 = .ok (.goto 908, 3)) ∧ (decode cL_law 1009 = .ok (.aload_n 1, 1)) ∧ (decode cL_law 1010 = .ok (.aload_n 0, 1)) ∧ (decode cL_law 1011 = .ok (.iload_n 3, 1)) := by decide +kernel
theorem dL_law_978 : decode cL_law 978 = .ok (.iaload, 1) := dLg_28.1
theorem dL_law_979 : decode cL_law 979 = .ok (.invokevirtual 93, 3) := dLg_28.2.1
theorem dL_law_982 : decode cL_law 982 = .ok (.pop, 1) := dLg_28.2.2.1
theorem dL_law_983 : decode cL_law 983 = .ok (.goto 931, 3) := dLg_28.2.2.2.1
theorem dL_law_986 : decode cL_law 986 = .ok (.aload_n 1, 1) := dLg_28.2.2.2.2.1
theorem dL_law_987 : decode cL_law 987 = .ok (.aload_n 0, 1) := dLg_28.2.2.2.2.2.1
theorem dL_law_988 : decode cL_law 988 = .ok (.iload_n 3, 1) := dLg_28.2.2.2.2.2.2.1
theorem dL_law_989 : decode cL_law 989 = .ok (.iconst 1, 1) := dLg_28.2.2.2.2.2.2.2.1
theorem dL_law_990 : decode cL_law 990 = .ok (.iadd, 1) := dLg_28.2.2.2.2.2.2.2.2.1
theorem dL_law_991 : decode cL_law 991 = .ok (.iaload, 1) := dLg_28.2.2.2.2.2.2.2.2.2.1
theorem dL_law_992 : decode cL_law 992 = .ok (.invokevirtual 94, 3) := dLg_28.2.2.2.2.2.2.2.2.2.2.1
theorem dL_law_995 : decode cL_law 995 = .ok (.pop, 1) := dLg_28.2.2.2.2.2.2.2.2.2.2.2.1
theorem dL_law_996 : decode cL_law 996 = .ok (.aload_n 2, 1) := dLg_28.2.2.2.2.2.2.2.2.2.2.2.2.1
theorem dL_law_997 : decode cL_law 997 = .ok (.aload_n 0, 1) := dLg_28.2.2.2.2.2.2.2.2.2.2.2.2.2.1
theorem dL_law_998 : decode cL_law 998 = .ok (.iload_n 3, 1) := dLg_28.2.2.2.2.2.2.2.2.2.2.2.2.2.2.1
theorem dL_law_999 : decode cL_law 999 = .ok (.iconst 1, 1) := dLg_28.2.2.2.2.2.2.2.2.2.2.2.2.2.2.2.1
theorem dL_law_1000 : decode cL_law 1000 = .ok (.iadd, 1) := dLg_28.2.2.2.2.2.2.2.2.2.2.2.2.2.2.2.2.1
theorem dL_law_1001 : decode cL_law 1001 = .ok (.iaload, 1) := dLg_28.2.2.2.2.2.2.2.2.2.2.2.2.2.2.2.2.2.1
theorem dL_law_1002 : decode cL_law 1002 = .ok (.invokevirtual 97, 3) := dLg_28.2.2.2.2.2.2.2.2.2.2.2.2.2.2.2.2.2.2.1
theorem dL_law_1005 : decode cL_law 1005 = .ok (.pop, 1) := dLg_28.2.2.2.2.2.2.2.2.2.2.2.2.2.2.2.2.2.2.2.1
theorem dL_law_1006 : decode cL_law 1006 = .ok (.goto 908, 3) := dLg_28.2.2.2.2.2.2.2.2.2.2.2.2.2.2.2.2.2.2.2.2.1
theorem dL_law_1009 : decode cL_law 1009 = .ok (.aload_n 1, 1) := dLg_28.2.2.2.2.2.2.2.2.2.2.2.2.2.2.2.2.2.2.2.2.2.1
theorem dL_law_1010 : decode cL_law 1010 = .ok (.aload_n 0, 1) := dLg_28.2.2.2.2.2.2.2.2.2.2.2.2.2.2.2.2.2.2.2.2.2.2.1
theorem dL_law_1011 : decode cL_law 1011 = .ok (.iload_n 3, 1) := dLg_28.2.2.2.2.2.2.2.2.2.2.2.2.2.2.2.2.2.2.2.2.2.2.2
theorem dLg_29 : (decode cL_law 1012 = .ok (.iconst 1, 1)) ∧ (decode cL_law 1013 = .ok (.iadd, 1)) ∧ (decode cL_law 1014 = .ok (.iaload, 1)) ∧ (decode cL_law 1015 = .ok (.aload_n 0, 1)) ∧ (decode cL_law 1016 = .ok (.iload_n 3, 1)) ∧ (decode cL_law 1017 = .ok (.iconst 2, 1)) ∧ (decode cL_law 1018 = .ok (.iadd, 1)) ∧ (decode cL_law 1019 = .ok (.iaload, 1)) ∧ (decode cL_law 1020 = .ok (.aload_n 0, 1)) ∧ (decode cL_law 1021 = .ok (.iload_n 3, 1)) ∧ (decode cL_law 1022 = .ok (.iconst 3, 1)) ∧ (decode cL_law 1023 = .ok (.iadd, 1)) ∧ (decode cL_law 1024 = .ok (.iaload, 1)) ∧ (decode cL_law 1025 = .ok (.invokevirtual 98, 3)) ∧ (decode cL_law 1028 = .ok (.pop, 1)) ∧ (decode cL_law 1029 = .ok (.aload_n 2, 1)) ∧ (decode cL_law 1030 = .ok (.aload_n 0, 1)) ∧ (decode cL_law 1031 = .ok (.iload_n 3, 1)) ∧ (decode cL_law 1032 = .ok (.iconst 1, 1)) ∧ (decode cL_law 1033 = .ok (.iadd, 1)) ∧ (decode cL_law 1034 = .ok (.iaload, 1)) ∧ (decode cL_law 1035 = .ok (.aload_n 0, 1)) ∧ (decode cL_law 1036 = .ok (.iload_n 3, 1)) ∧ (decode cL_law 1037 = .ok (.iconst 2, 1)) := by decide +kernel
theorem dL_law_1012 : decode cL_law 1012 = .ok (.iconst 1, 1) := dLg_29.1
theorem dL_law_1013 : decode cL_law 1013 = .ok (.iadd, 1) := dLg_29.2.1
theorem dL_law_1014 : decode cL_law 1014 = .ok (.iaload, 1) := dLg_29.2.2.1
theorem dL_law_1015 : decode cL_law 1015 = .ok (.aload_n 0, 1) := dLg_29.2.2.2.1
theorem dL_law_1016 : decode cL_law 1016 = .ok (.iload_n 3, 1) := dLg_29.2.2.2.2.1
theorem dL_law_1017 : decode cL_law 1017 = .ok (.iconst 2, 1) := dLg_29.2.2.2.2.2.1
theorem dL_law_1018 : decode cL_law 1018 = .ok (.iadd, 1) := dLg_29.2.2.2.2.2.2.1
theorem dL_law_1019 : decode cL_law 1019 = .ok (.iaload, 1) := dLg_29.2.2.2.2.2.2.2.1
theorem dL_law_1020 : decode cL_law 1020 = .ok (.aload_n 0, 1) := dLg_29.2.2.2.2.2.2.2.2.1
theorem dL_law_1021 : decode cL_law 1021 = .ok (.iload_n 3, 1) := dLg_29.2.2.2.2.2.2.2.2.2.1
theorem dL_law_1022 : decode cL_law 1022 = .ok (.iconst 3, 1) := dLg_29.2.2.2.2.2.2.2.2.2.2.1
theorem dL_law_1023 : decode cL_law 1023 = .ok (.iadd, 1) := dLg_29.2.2.2.2.2.2.2.2.2.2.2.1
theorem dL_law_1024 : decode cL_law 1024 = .ok (.iaload, 1) := dLg_29.2.2.2.2.2.2.2.2.2.2.2.2.1
theorem dL_law_1025 : decode cL_law 1025 = .ok (.invokevirtual 98, 3) := dLg_29.2.2.2.2.2.2.2.2.2.2.2.2.2.1
theorem dL_law_1028 : decode cL_law 1028 = .ok (.pop, 1) := dLg_29.2.2.2.2.2.2.2.2.2.2.2.2.2.2.1
theorem dL_law_1029 : decode cL_law 1029 = .ok (.aload_n 2, 1) := dLg_29.2.2.2.2.2.2.2.2.2.2.2.2.2.2.2.1
theorem dL_law_1030 : decode cL_law 1030 = .ok (.aload_n 0, 1) := dLg_29.2.2.2.2.2.2.2.2.2.2.2.2.2.2.2.2.1
theorem dL_law_1031 : decode cL_law 1031 = .ok (.iload_n 3, 1) := dLg_29.2.2.2.2.2.2.2.2.2.2.2.2.2.2.2.2.2.1
theorem dL_law_1032 : decode cL_law 1032 = .ok (.iconst 1, 1) := dLg_29.2.2.2.2.2.2.2.2.2.2.2.2.2.2.2.2.2.2.1
theorem dL_law_1033 : decode cL_law 1033 = .ok (.iadd, 1) := dLg_29.2.2.2.2.2.2.2.2.2.2.2.2.2.2.2.2.2.2.2.1
theorem dL_law_1034 : decode cL_law 1034 = .ok (.iaload, 1) := dLg_29.2.2.2.2.2.2.2.2.2.2.2.2.2.2.2.2.2.2.2.2.1
theorem dL_law_1035 : decode cL_law 1035 = .ok (.aload_n 0, 1) := dLg_29.2.2.2.2.2.2.2.2.2.2.2.2.2.2.2.2.2.2.2.2.2.1
theorem dL_law_1036 : decode cL_law 1036 = .ok (.iload_n 3, 1) := dLg_29.2.2.2.2.2.2.2.2.2.2.2.2.2.2.2.2.2.2.2.2.2.2.1
theorem dL_law_1037 : decode cL_law 1037 = .ok (.iconst 2, 1) := dLg_29.2.2.2.2.2.2.2.2.2.2.2.2.2.2.2.2.2.2.2.2.2.2.2
theorem dLg_30 : (decode cL_law 1038 = .ok (.iadd, 1)) ∧ (decode cL_law 1039 = .ok (.iaload, 1)) ∧ (decode cL_law 1040 = .ok (.aload_n 0, 1)) ∧ (decode cL_law 1041 = .ok (.iload_n 3, 1)) ∧ (decode cL_law 1042 = .ok (.iconst 3, 1)) ∧ (decode cL_law 1043 = .ok (.iadd, 1)) ∧ (decode cL_law 1044 = .ok (.iaload, 1)) ∧ (decode cL_law 1045 = .ok (.invokevirtual 101, 3)) ∧ (decode cL_law 1048 = .ok (.pop, 1)) ∧ (decode cL_law 1049 = .ok (.goto 865, 3)) ∧ (decode cL_law 1052 = .ok (.aload_n 1, 1)) ∧ (decode cL_law 1053 = .ok (.aload_n 0, 1)) ∧ (decode cL_law 1054 = .ok (.iload_n 3, 1)) ∧ (decode cL_law 1055 = .ok (.iconst 1, 1)) ∧ (decode cL_law 1056 = .ok (.iadd, 1)) ∧ (decode cL_law 1057 = .ok (.iaload, 1)) ∧ (decode cL_law 1058 = .ok (.aload_n 0, 1)) ∧ (decode cL_law 1059 = .ok (.iload_n 3, 1)) ∧ (decode cL_law 1060 = .ok (.iconst 2, 1)) ∧ (decode cL_law 1061 = .ok (.iadd, 1)) ∧ (decode cL_law 1062 = .ok (.iaload, 1)) ∧ (decode cL_law 1063 = .ok (.aload_n 0, 1)) ∧ (decode cL_law 1064 = .ok (.iload_n 3, 1)) ∧ (decode cL_law 1065 = .ok (.iconst 3, 1)) := by decide +kernel
theorem dL_law_1038 : decode cL_law 1038 = .ok (.iadd, 1) := dLg_30.1
theorem dL_law_1039 : decode cL_law 1039 = .ok (.iaload, 1) := dLg_30.2.1
theorem dL_law_1040 : decode cL_law 1040 = .ok (.aload_n 0, 1) := dLg_30.2.2.1
theorem dL_law_1041 : decode cL_law 1041 = .ok (.iload_n 3, 1) := dLg_30.2.2.2.1
theorem dL_law_1042 : decode cL_law 1042 = .ok (.iconst 3, 1) := dLg_30.2.2.2.2.1
theorem dL_law_1043 : decode cL_law 1043 = .ok (.iadd, 1) := dLg_30.2.2.2.2.2.1
theorem dL_law_1044 : decode cL_law 1044 = .ok (.iaload, 1) := dLg_30.2.2.2.2.2.2.1
theorem dL_law_1045 : decode cL_law 1045 = .ok (.invokevirtual 101, 3) := dLg_30.2.2.2.2.2.2.2.1
theorem dL_law_1048 : decode cL_law 1048 = .ok (.pop, 1) := dLg_30.2.2.2.2.2.2.2.2.1
