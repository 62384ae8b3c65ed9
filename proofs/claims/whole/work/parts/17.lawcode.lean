theorem d_law_618 : decode code 618 = .ok (.iconst 3, 1) := by decide +kernel
theorem d_law_619 : decode code 619 = .ok (.iadd, 1) := by decide +kernel
theorem d_law_620 : decode code 620 = .ok (.iaload, 1) := by decide +kernel
theorem d_law_621 : decode code 621 = .ok (.invokevirtual 70, 3) := by decide +kernel
theorem d_law_624 : decode code 624 = .ok (.if_icmp .eq 496, 3) := by decide +kernel
theorem d_law_627 : decode code 627 = .ok (.iconst 0, 1) := by decide +kernel
theorem d_law_628 : decode code 628 = .ok (.ireturn, 1) := by decide +kernel
theorem d_law_629 : decode code 629 = .ok (.aload_n 1, 1) := by decide +kernel
theorem d_law_630 : decode code 630 = .ok (.aload_n 0, 1) := by decide +kernel
theorem d_law_631 : decode code 631 = .ok (.iload_n 3, 1) := by decide +kernel
theorem d_law_632 : decode code 632 = .ok (.iconst 1, 1) := by decide +kernel
theorem d_law_633 : decode code 633 = .ok (.iadd, 1) := by decide +kernel
theorem d_law_634 : decode code 634 = .ok (.iaload, 1) := by decide +kernel
theorem d_law_635 : decode code 635 = .ok (.aload_n 0, 1) := by decide +kernel
theorem d_law_636 : decode code 636 = .ok (.iload_n 3, 1) := by decide +kernel
theorem d_law_637 : decode code 637 = .ok (.iconst 2, 1) := by decide +kernel
theorem d_law_638 : decode code 638 = .ok (.iadd, 1) := by decide +kernel
theorem d_law_639 : decode code 639 = .ok (.iaload, 1) := by decide +kernel
theorem d_law_640 : decode code 640 = .ok (.aload_n 0, 1) := by decide +kernel
theorem d_law_641 : decode code 641 = .ok (.iload_n 3, 1) := by decide +kernel
theorem d_law_642 : decode code 642 = .ok (.iconst 3, 1) := by decide +kernel
theorem d_law_643 : decode code 643 = .ok (.iadd, 1) := by decide +kernel
theorem d_law_644 : decode code 644 = .ok (.iaload, 1) := by decide +kernel
theorem d_law_645 : decode code 645 = .ok (.invokevirtual 71, 3) := by decide +kernel
theorem d_law_648 : decode code 648 = .ok (.aload_n 2, 1) := by decide +kernel
theorem d_law_649 : decode code 649 = .ok (.aload_n 0, 1) := by decide +kernel
theorem d_law_650 : decode code 650 = .ok (.iload_n 3, 1) := by decide +kernel
theorem d_law_651 : decode code 651 = .ok (.iconst 1, 1) := by decide +kernel
theorem d_law_652 : decode code 652 = .ok (.iadd, 1) := by decide +kernel
theorem d_law_653 : decode code 653 = .ok (.iaload, 1) := by decide +kernel
theorem d_law_654 : decode code 654 = .ok (.aload_n 0, 1) := by decide +kernel
theorem d_law_655 : decode code 655 = .ok (.iload_n 3, 1) := by decide +kernel
theorem d_law_656 : decode code 656 = .ok (.iconst 2, 1) := by decide +kernel
theorem d_law_657 : decode code 657 = .ok (.iadd, 1) := by decide +kernel
theorem d_law_658 : decode code 658 = .ok (.iaload, 1) := by decide +kernel
theorem d_law_659 : decode code 659 = .ok (.aload_n 0, 1) := by decide +kernel
theorem d_law_660 : decode code 660 = .ok (.iload_n 3, 1) := by decide +kernel
theorem d_law_661 : decode code 661 = .ok (.iconst 3, 1) := by decide +kernel
theorem d_law_662 : decode code 662 = .ok (.iadd, 1) := by decide +kernel
theorem d_law_663 : decode code 663 = .ok (.iaload, 1) := by decide +kernel
theorem d_law_664 : decode code 664 = .ok (.invokevirtual 74, 3) := by decide +kernel
theorem d_law_667 : decode code 667 = .ok (.if_icmp .eq 453, 3) := by decide +kernel
theorem d_law_670 : decode code 670 = .ok (.iconst 0, 1) := by decide +kernel
theorem d_law_671 : decode code 671 = .ok (.ireturn, 1) := by decide +kernel
theorem d_law_672 : decode code 672 = .ok (.aload_n 1, 1) := by decide +kernel
theorem d_law_673 : decode code 673 = .ok (.aload_n 0, 1) := by decide +kernel
theorem d_law_674 : decode code 674 = .ok (.iload_n 3, 1) := by decide +kernel
theorem d_law_675 : decode code 675 = .ok (.iconst 1, 1) := by decide +kernel
theorem d_law_676 : decode code 676 = .ok (.iadd, 1) := by decide +kernel
theorem d_law_677 : decode code 677 = .ok (.iaload, 1) := by decide +kernel
theorem d_law_678 : decode code 678 = .ok (.aload_n 0, 1) := by decide +kernel
theorem d_law_679 : decode code 679 = .ok (.iload_n 3, 1) := by decide +kernel
theorem d_law_680 : decode code 680 = .ok (.iconst 2, 1) := by decide +kernel
theorem d_law_681 : decode code 681 = .ok (.iadd, 1) := by decide +kernel
theorem d_law_682 : decode code 682 = .ok (.iaload, 1) := by decide +kernel
theorem d_law_683 : decode code 683 = .ok (.ifCond .eq 7, 3) := by decide +kernel
theorem d_law_686 : decode code 686 = .ok (.iconst 1, 1) := by decide +kernel
theorem d_law_687 : decode code 687 = .ok (.goto 4, 3) := by decide +kernel
theorem d_law_690 : decode code 690 = .ok (.iconst 0, 1) := by decide +kernel
theorem d_law_691 : decode code 691 = .ok (.invokevirtual 75, 3) := by decide +kernel
theorem d_law_694 : decode code 694 = .ok (.aload_n 2, 1) := by decide +kernel
theorem d_law_695 : decode code 695 = .ok (.aload_n 0, 1) := by decide +kernel
theorem d_law_696 : decode code 696 = .ok (.iload_n 3, 1) := by decide +kernel
theorem d_law_697 : decode code 697 = .ok (.iconst 1, 1) := by decide +kernel
theorem d_law_698 : decode code 698 = .ok (.iadd, 1) := by decide +kernel
theorem d_law_699 : decode code 699 = .ok (.iaload, 1) := by decide +kernel
theorem d_law_700 : decode code 700 = .ok (.aload_n 0, 1) := by decide +kernel
theorem d_law_701 : decode code 701 = .ok (.iload_n 3, 1) := by decide +kernel
theorem d_law_702 : decode code 702 = .ok (.iconst 2, 1) := by decide +kernel
theorem d_law_703 : decode code 703 = .ok (.iadd, 1) := by decide +kernel
theorem d_law_704 : decode code 704 = .ok (.iaload, 1) := by decide +kernel
theorem d_law_705 : decode code 705 = .ok (.ifCond .eq 7, 3) := by decide +kernel
theorem d_law_708 : decode code 708 = .ok (.iconst 1, 1) := by decide +kernel
theorem d_law_709 : decode code 709 = .ok (.goto 4, 3) := by decide +kernel
theorem d_law_712 : decode code 712 = .ok (.iconst 0, 1) := by decide +kernel
theorem d_law_713 : decode code 713 = .ok (.invokevirtual 79, 3) := by decide +kernel
theorem d_law_716 : decode code 716 = .ok (.if_icmp .eq 404, 3) := by decide +kernel
theorem d_law_719 : decode code 719 = .ok (.iconst 0, 1) := by decide +kernel
theorem d_law_720 : decode code 720 = .ok (.ireturn, 1) := by decide +kernel
theorem d_law_721 : decode code 721 = .ok (.aload_n 1, 1) := by decide +kernel
theorem d_law_722 : decode code 722 = .ok (.aload_n 0, 1) := by decide +kernel
theorem d_law_723 : decode code 723 = .ok (.iload_n 3, 1) := by decide +kernel
theorem d_law_724 : decode code 724 = .ok (.iconst 1, 1) := by decide +kernel
theorem d_law_725 : decode code 725 = .ok (.iadd, 1) := by decide +kernel
theorem d_law_726 : decode code 726 = .ok (.iaload, 1) := by decide +kernel
theorem d_law_727 : decode code 727 = .ok (.aload_n 0, 1) := by decide +kernel
theorem d_law_728 : decode code 728 = .ok (.iload_n 3, 1) := by decide +kernel
theorem d_law_729 : decode code 729 = .ok (.iconst 2, 1) := by decide +kernel
theorem d_law_730 : decode code 730 = .ok (.iadd, 1) := by decide +kernel
theorem d_law_731 : decode code 731 = .ok (.iaload, 1) := by decide +kernel
theorem d_law_732 : decode code 732 = .ok (.aload_n 0, 1) := by decide +kernel
theorem d_law_733 : decode code 733 = .ok (.iload_n 3, 1) := by decide +kernel
theorem d_law_734 : decode code 734 = .ok (.iconst 3, 1) := by decide +kernel
theorem d_law_735 : decode code 735 = .ok (.iadd, 1) := by decide +kernel
theorem d_law_736 : decode code 736 = .ok (.iaload, 1) := by decide +kernel
theorem d_law_737 : decode code 737 = .ok (.invokevirtual 80, 3) := by decide +kernel
theorem d_law_740 : decode code 740 = .ok (.aload_n 2, 1) := by decide +kernel
theorem d_law_741 : decode code 741 = .ok (.aload_n 0, 1) := by decide +kernel
theorem d_law_742 : decode code 742 = .ok (.iload_n 3, 1) := by decide +kernel
theorem d_law_743 : decode code 743 = .ok (.iconst 1, 1) := by decide +kernel
theorem d_law_744 : decode code 744 = .ok (.iadd, 1) := by decide +kernel
theorem d_law_745 : decode code 745 = .ok (.iaload, 1) := by decide +kernel
theorem d_law_746 : decode code 746 = .ok (.aload_n 0, 1) := by decide +kernel
theorem d_law_747 : decode code 747 = .ok (.iload_n 3, 1) := by decide +kernel
theorem d_law_748 : decode code 748 = .ok (.iconst 2, 1) := by decide +kernel
theorem d_law_749 : decode code 749 = .ok (.iadd, 1) := by decide +kernel
theorem d_law_750 : decode code 750 = .ok (.iaload, 1) := by decide +kernel
theorem d_law_751 : decode code 751 = .ok (.aload_n 0, 1) := by decide +kernel
theorem d_law_752 : decode code 752 = .ok (.iload_n 3, 1) := by decide +kernel
theorem d_law_753 : decode code 753 = .ok (.iconst 3, 1) := by decide +kernel
theorem d_law_754 : decode code 754 = .ok (.iadd, 1) := by decide +kernel
theorem d_law_755 : decode code 755 = .ok (.iaload, 1) := by decide +kernel
theorem d_law_756 : decode code 756 = .ok (.invokevirtual 83, 3) := by decide +kernel
theorem d_law_759 : decode code 759 = .ok (.if_icmp .eq 361, 3) := by decide +kernel
theorem d_law_762 : decode code 762 = .ok (.iconst 0, 1) := by decide +kernel
theorem d_law_763 : decode code 763 = .ok (.ireturn, 1) := by decide +kernel
theorem d_law_764 : decode code 764 = .ok (.aload_n 1, 1) := by decide +kernel
theorem d_law_765 : decode code 765 = .ok (.aload_n 0, 1) := by decide +kernel
theorem d_law_766 : decode code 766 = .ok (.iload_n 3, 1) := by decide +kernel
theorem d_law_767 : decode code 767 = .ok (.iconst 1, 1) := by decide +kernel
theorem d_law_768 : decode code 768 = .ok (.iadd, 1) := by decide +kernel
theorem d_law_769 : decode code 769 = .ok (.iaload, 1) := by decide +kernel
theorem d_law_770 : decode code 770 = .ok (.invokevirtual 84, 3) := by decide +kernel
theorem d_law_773 : decode code 773 = .ok (.aload_n 2, 1) := by decide +kernel
theorem d_law_774 : decode code 774 = .ok (.aload_n 0, 1) := by decide +kernel
theorem d_law_775 : decode code 775 = .ok (.iload_n 3, 1) := by decide +kernel
theorem d_law_776 : decode code 776 = .ok (.iconst 1, 1) := by decide +kernel
theorem d_law_777 : decode code 777 = .ok (.iadd, 1) := by decide +kernel
theorem d_law_778 : decode code 778 = .ok (.iaload, 1) := by decide +kernel
theorem d_law_779 : decode code 779 = .ok (.invokevirtual 88, 3) := by decide +kernel
theorem d_law_782 : decode code 782 = .ok (.if_icmp .eq 338, 3) := by decide +kernel
theorem d_law_785 : decode code 785 = .ok (.iconst 0, 1) := by decide +kernel
theorem d_law_786 : decode code 786 = .ok (.ireturn, 1) := by decide +kernel
theorem d_law_787 : decode code 787 = .ok (.aload_n 1, 1) := by decide +kernel
theorem d_law_788 : decode code 788 = .ok (.aload_n 0, 1) := by decide +kernel
theorem d_law_789 : decode code 789 = .ok (.iload_n 3, 1) := by decide +kernel
theorem d_law_790 : decode code 790 = .ok (.iconst 1, 1) := by decide +kernel
theorem d_law_791 : decode code 791 = .ok (.iadd, 1) := by decide +kernel
theorem d_law_792 : decode code 792 = .ok (.iaload, 1) := by decide +kernel
theorem d_law_793 : decode code 793 = .ok (.aload_n 0, 1) := by decide +kernel
theorem d_law_794 : decode code 794 = .ok (.iload_n 3, 1) := by decide +kernel
theorem d_law_795 : decode code 795 = .ok (.iconst 2, 1) := by decide +kernel
theorem d_law_796 : decode code 796 = .ok (.iadd, 1) := by decide +kernel
theorem d_law_797 : decode code 797 = .ok (.iaload, 1) := by decide +kernel
theorem d_law_798 : decode code 798 = .ok (.invokevirtual 89, 3) := by decide +kernel
theorem d_law_801 : decode code 801 = .ok (.aload_n 2, 1) := by decide +kernel
theorem d_law_802 : decode code 802 = .ok (.aload_n 0, 1) := by decide +kernel
theorem d_law_803 : decode code 803 = .ok (.iload_n 3, 1) := by decide +kernel
theorem d_law_804 : decode code 804 = .ok (.iconst 1, 1) := by decide +kernel
theorem d_law_805 : decode code 805 = .ok (.iadd, 1) := by decide +kernel
theorem d_law_806 : decode code 806 = .ok (.iaload, 1) := by decide +kernel
theorem d_law_807 : decode code 807 = .ok (.aload_n 0, 1) := by decide +kernel
theorem d_law_808 : decode code 808 = .ok (.iload_n 3, 1) := by decide +kernel
theorem d_law_809 : decode code 809 = .ok (.iconst 2, 1) := by decide +kernel
theorem d_law_810 : decode code 810 = .ok (.iadd, 1) := by decide +kernel
theorem d_law_811 : decode code 811 = .ok (.iaload, 1) := by decide +kernel
theorem d_law_812 : decode code 812 = .ok (.invokevirtual 92, 3) := by decide +kernel
theorem d_law_815 : decode code 815 = .ok (.if_icmp .eq 305, 3) := by decide +kernel
theorem d_law_818 : decode code 818 = .ok (.iconst 0, 1) := by decide +kernel
theorem d_law_819 : decode code 819 = .ok (.ireturn, 1) := by decide +kernel
theorem d_law_820 : decode code 820 = .ok (.aload_n 1, 1) := by decide +kernel
theorem d_law_821 : decode code 821 = .ok (.aload_n 0, 1) := by decide +kernel
theorem d_law_822 : decode code 822 = .ok (.iload_n 3, 1) := by decide +kernel
theorem d_law_823 : decode code 823 = .ok (.iconst 1, 1) := by decide +kernel
theorem d_law_824 : decode code 824 = .ok (.iadd, 1) := by decide +kernel
theorem d_law_825 : decode code 825 = .ok (.iaload, 1) := by decide +kernel
theorem d_law_826 : decode code 826 = .ok (.aload_n 0, 1) := by decide +kernel
theorem d_law_827 : decode code 827 = .ok (.iload_n 3, 1) := by decide +kernel
theorem d_law_828 : decode code 828 = .ok (.iconst 2, 1) := by decide +kernel
theorem d_law_829 : decode code 829 = .ok (.iadd, 1) := by decide +kernel
theorem d_law_830 : decode code 830 = .ok (.iaload, 1) := by decide +kernel
theorem d_law_831 : decode code 831 = .ok (.invokevirtual 93, 3) := by decide +kernel
theorem d_law_834 : decode code 834 = .ok (.aload_n 2, 1) := by decide +kernel
theorem d_law_835 : decode code 835 = .ok (.aload_n 0, 1) := by decide +kernel
theorem d_law_836 : decode code 836 = .ok (.iload_n 3, 1) := by decide +kernel
theorem d_law_837 : decode code 837 = .ok (.iconst 1, 1) := by decide +kernel
theorem d_law_838 : decode code 838 = .ok (.iadd, 1) := by decide +kernel
theorem d_law_839 : decode code 839 = .ok (.iaload, 1) := by decide +kernel
theorem d_law_840 : decode code 840 = .ok (.aload_n 0, 1) := by decide +kernel
theorem d_law_841 : decode code 841 = .ok (.iload_n 3, 1) := by decide +kernel
theorem d_law_842 : decode code 842 = .ok (.iconst 2, 1) := by decide +kernel
theorem d_law_843 : decode code 843 = .ok (.iadd, 1) := by decide +kernel
theorem d_law_844 : decode code 844 = .ok (.iaload, 1) := by decide +kernel
theorem d_law_845 : decode code 845 = .ok (.invokevirtual 96, 3) := by decide +kernel
theorem d_law_848 : decode code 848 = .ok (.if_icmp .eq 272, 3) := by decide +kernel
theorem d_law_851 : decode code 851 = .ok (.iconst 0, 1) := by decide +kernel
theorem d_law_852 : decode code 852 = .ok (.ireturn, 1) := by decide +kernel
theorem d_law_853 : decode code 853 = .ok (.aload_n 1, 1) := by decide +kernel
theorem d_law_854 : decode code 854 = .ok (.invokevirtual 97, 3) := by decide +kernel
theorem d_law_857 : decode code 857 = .ok (.aload_n 2, 1) := by decide +kernel
theorem d_law_858 : decode code 858 = .ok (.invokevirtual 101, 3) := by decide +kernel
theorem d_law_861 : decode code 861 = .ok (.if_icmp .eq 259, 3) := by decide +kernel
theorem d_law_864 : decode code 864 = .ok (.iconst 0, 1) := by decide +kernel
theorem d_law_865 : decode code 865 = .ok (.ireturn, 1) := by decide +kernel
theorem d_law_866 : decode code 866 = .ok (.aload_n 1, 1) := by decide +kernel
theorem d_law_867 : decode code 867 = .ok (.aload_n 0, 1) := by decide +kernel
theorem d_law_868 : decode code 868 = .ok (.iload_n 3, 1) := by decide +kernel
theorem d_law_869 : decode code 869 = .ok (.iconst 1, 1) := by decide +kernel
theorem d_law_870 : decode code 870 = .ok (.iadd, 1) := by decide +kernel
theorem d_law_871 : decode code 871 = .ok (.iaload, 1) := by decide +kernel
theorem d_law_872 : decode code 872 = .ok (.invokevirtual 102, 3) := by decide +kernel
theorem d_law_875 : decode code 875 = .ok (.aload_n 2, 1) := by decide +kernel
theorem d_law_876 : decode code 876 = .ok (.aload_n 0, 1) := by decide +kernel
