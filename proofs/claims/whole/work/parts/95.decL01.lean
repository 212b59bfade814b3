theorem dL_law_2694 : decode cL_law 2694 = .ok (.invokevirtual 351, 3) := by decide +kernel
theorem dL_law_2697 : decode cL_law 2697 = .ok (.istore 7, 2) := by decide +kernel
theorem dL_law_2699 : decode cL_law 2699 = .ok (.aload_n 2, 1) := by decide +kernel
theorem dL_law_2700 : decode cL_law 2700 = .ok (.invokevirtual 175, 3) := by decide +kernel
theorem dL_law_2703 : decode cL_law 2703 = .ok (.iload 6, 2) := by decide +kernel
theorem dL_law_2705 : decode cL_law 2705 = .ok (.if_icmp .eq 5, 3) := by decide +kernel
theorem dL_law_2708 : decode cL_law 2708 = .ok (.iconst 0, 1) := by decide +kernel
theorem dL_law_2709 : decode cL_law 2709 = .ok (.ireturn, 1) := by decide +kernel
theorem dL_law_2710 : decode cL_law 2710 = .ok (.iload 6, 2) := by decide +kernel
theorem dL_law_2712 : decode cL_law 2712 = .ok (.ifCond .ne 15, 3) := by decide +kernel
theorem dL_law_2715 : decode cL_law 2715 = .ok (.aload_n 3, 1) := by decide +kernel
theorem dL_law_2716 : decode cL_law 2716 = .ok (.iconst 0, 1) := by decide +kernel
theorem dL_law_2717 : decode cL_law 2717 = .ok (.laload, 1) := by decide +kernel
theorem dL_law_2718 : decode cL_law 2718 = .ok (.iload 7, 2) := by decide +kernel
theorem dL_law_2720 : decode cL_law 2720 = .ok (.i2l, 1) := by decide +kernel
theorem dL_law_2721 : decode cL_law 2721 = .ok (.lcmp, 1) := by decide +kernel
theorem dL_law_2722 : decode cL_law 2722 = .ok (.ifCond .eq 5, 3) := by decide +kernel
theorem dL_law_2725 : decode cL_law 2725 = .ok (.iconst 0, 1) := by decide +kernel
theorem dL_law_2726 : decode cL_law 2726 = .ok (.ireturn, 1) := by decide +kernel
theorem dL_law_2727 : decode cL_law 2727 = .ok (.goto 577, 3) := by decide +kernel
theorem dL_law_2730 : decode cL_law 2730 = .ok (.aload_n 1, 1) := by decide +kernel
theorem dL_law_2731 : decode cL_law 2731 = .ok (.aload_n 0, 1) := by decide +kernel
theorem dL_law_2732 : decode cL_law 2732 = .ok (.iload 5, 2) := by decide +kernel
theorem dL_law_2734 : decode cL_law 2734 = .ok (.iconst 1, 1) := by decide +kernel
theorem dL_law_2735 : decode cL_law 2735 = .ok (.iadd, 1) := by decide +kernel
theorem dL_law_2736 : decode cL_law 2736 = .ok (.iaload, 1) := by decide +kernel
theorem dL_law_2737 : decode cL_law 2737 = .ok (.aload_n 0, 1) := by decide +kernel
theorem dL_law_2738 : decode cL_law 2738 = .ok (.iload 5, 2) := by decide +kernel
theorem dL_law_2740 : decode cL_law 2740 = .ok (.iconst 2, 1) := by decide +kernel
theorem dL_law_2741 : decode cL_law 2741 = .ok (.iadd, 1) := by decide +kernel
theorem dL_law_2742 : decode cL_law 2742 = .ok (.iaload, 1) := by decide +kernel
theorem dL_law_2743 : decode cL_law 2743 = .ok (.aload_n 3, 1) := by decide +kernel
theorem dL_law_2744 : decode cL_law 2744 = .ok (.invokestatic 352, 3) := by decide +kernel
theorem dL_law_2747 : decode cL_law 2747 = .ok (.istore 6, 2) := by decide +kernel
theorem dL_law_2749 : decode cL_law 2749 = .ok (.aload_n 2, 1) := by decide +kernel
theorem dL_law_2750 : decode cL_law 2750 = .ok (.aload_n 0, 1) := by decide +kernel
theorem dL_law_2751 : decode cL_law 2751 = .ok (.iload 5, 2) := by decide +kernel
theorem dL_law_2753 : decode cL_law 2753 = .ok (.iconst 1, 1) := by decide +kernel
theorem dL_law_2754 : decode cL_law 2754 = .ok (.iadd, 1) := by decide +kernel
theorem dL_law_2755 : decode cL_law 2755 = .ok (.iaload, 1) := by decide +kernel
theorem dL_law_2756 : decode cL_law 2756 = .ok (.aload_n 0, 1) := by decide +kernel
theorem dL_law_2757 : decode cL_law 2757 = .ok (.iload 5, 2) := by decide +kernel
theorem dL_law_2759 : decode cL_law 2759 = .ok (.iconst 2, 1) := by decide +kernel
theorem dL_law_2760 : decode cL_law 2760 = .ok (.iadd, 1) := by decide +kernel
theorem dL_law_2761 : decode cL_law 2761 = .ok (.iaload, 1) := by decide +kernel
theorem dL_law_2762 : decode cL_law 2762 = .ok (.invokevirtual 354, 3) := by decide +kernel
theorem dL_law_2765 : decode cL_law 2765 = .ok (.istore 7, 2) := by decide +kernel
theorem dL_law_2767 : decode cL_law 2767 = .ok (.aload_n 2, 1) := by decide +kernel
theorem dL_law_2768 : decode cL_law 2768 = .ok (.invokevirtual 175, 3) := by decide +kernel
theorem dL_law_2771 : decode cL_law 2771 = .ok (.iload 6, 2) := by decide +kernel
theorem dL_law_2773 : decode cL_law 2773 = .ok (.if_icmp .eq 5, 3) := by decide +kernel
theorem dL_law_2776 : decode cL_law 2776 = .ok (.iconst 0, 1) := by decide +kernel
theorem dL_law_2777 : decode cL_law 2777 = .ok (.ireturn, 1) := by decide +kernel
theorem dL_law_2778 : decode cL_law 2778 = .ok (.iload 6, 2) := by decide +kernel
theorem dL_law_2780 : decode cL_law 2780 = .ok (.ifCond .ne 15, 3) := by decide +kernel
theorem dL_law_2783 : decode cL_law 2783 = .ok (.aload_n 3, 1) := by decide +kernel
theorem dL_law_2784 : decode cL_law 2784 = .ok (.iconst 0, 1) := by decide +kernel
theorem dL_law_2785 : decode cL_law 2785 = .ok (.laload, 1) := by decide +kernel
theorem dL_law_2786 : decode cL_law 2786 = .ok (.iload 7, 2) := by decide +kernel
theorem dL_law_2788 : decode cL_law 2788 = .ok (.i2l, 1) := by decide +kernel
theorem dL_law_2789 : decode cL_law 2789 = .ok (.lcmp, 1) := by decide +kernel
theorem dL_law_2790 : decode cL_law 2790 = .ok (.ifCond .eq 5, 3) := by decide +kernel
theorem dL_law_2793 : decode cL_law 2793 = .ok (.iconst 0, 1) := by decide +kernel
theorem dL_law_2794 : decode cL_law 2794 = .ok (.ireturn, 1) := by decide +kernel
theorem dL_law_2795 : decode cL_law 2795 = .ok (.goto 509, 3) := by decide +kernel
theorem dL_law_2798 : decode cL_law 2798 = .ok (.aload_n 1, 1) := by decide +kernel
theorem dL_law_2799 : decode cL_law 2799 = .ok (.aload_n 0, 1) := by decide +kernel
theorem dL_law_2800 : decode cL_law 2800 = .ok (.iload 5, 2) := by decide +kernel
theorem dL_law_2802 : decode cL_law 2802 = .ok (.iconst 1, 1) := by decide +kernel
theorem dL_law_2803 : decode cL_law 2803 = .ok (.iadd, 1) := by decide +kernel
theorem dL_law_2804 : decode cL_law 2804 = .ok (.iaload, 1) := by decide +kernel
theorem dL_law_2805 : decode cL_law 2805 = .ok (.aload_n 3, 1) := by decide +kernel
theorem dL_law_2806 : decode cL_law 2806 = .ok (.invokestatic 355, 3) := by decide +kernel
theorem dL_law_2809 : decode cL_law 2809 = .ok (.istore 6, 2) := by decide +kernel
theorem dL_law_2811 : decode cL_law 2811 = .ok (.aload_n 2, 1) := by decide +kernel
theorem dL_law_2812 : decode cL_law 2812 = .ok (.aload_n 0, 1) := by decide +kernel
theorem dL_law_2813 : decode cL_law 2813 = .ok (.iload 5, 2) := by decide +kernel
theorem dL_law_2815 : decode cL_law 2815 = .ok (.iconst 1, 1) := by decide +kernel
theorem dL_law_2816 : decode cL_law 2816 = .ok (.iadd, 1) := by decide +kernel
theorem dL_law_2817 : decode cL_law 2817 = .ok (.iaload, 1) := by decide +kernel
theorem dL_law_2818 : decode cL_law 2818 = .ok (.invokevirtual 357, 3) := by decide +kernel
theorem dL_law_2821 : decode cL_law 2821 = .ok (.istore 7, 2) := by decide +kernel
theorem dL_law_2823 : decode cL_law 2823 = .ok (.aload_n 2, 1) := by decide +kernel
theorem dL_law_2824 : decode cL_law 2824 = .ok (.invokevirtual 175, 3) := by decide +kernel
theorem dL_law_2827 : decode cL_law 2827 = .ok (.iload 6, 2) := by decide +kernel
theorem dL_law_2829 : decode cL_law 2829 = .ok (.if_icmp .eq 5, 3) := by decide +kernel
theorem dL_law_2832 : decode cL_law 2832 = .ok (.iconst 0, 1) := by decide +kernel
theorem dL_law_2833 : decode cL_law 2833 = .ok (.ireturn, 1) := by decide +kernel
theorem dL_law_2834 : decode cL_law 2834 = .ok (.iload 6, 2) := by decide +kernel
theorem dL_law_2836 : decode cL_law 2836 = .ok (.ifCond .ne 15, 3) := by decide +kernel
theorem dL_law_2839 : decode cL_law 2839 = .ok (.aload_n 3, 1) := by decide +kernel
theorem dL_law_2840 : decode cL_law 2840 = .ok (.iconst 0, 1) := by decide +kernel
theorem dL_law_2841 : decode cL_law 2841 = .ok (.laload, 1) := by decide +kernel
theorem dL_law_2842 : decode cL_law 2842 = .ok (.iload 7, 2) := by decide +kernel
theorem dL_law_2844 : decode cL_law 2844 = .ok (.i2l, 1) := by decide +kernel
theorem dL_law_2845 : decode cL_law 2845 = .ok (.lcmp, 1) := by decide +kernel
theorem dL_law_2846 : decode cL_law 2846 = .ok (.ifCond .eq 5, 3) := by decide +kernel
theorem dL_law_2849 : decode cL_law 2849 = .ok (.iconst 0, 1) := by decide +kernel
theorem dL_law_2850 : decode cL_law 2850 = .ok (.ireturn, 1) := by decide +kernel
theorem dL_law_2851 : decode cL_law 2851 = .ok (.goto 453, 3) := by decide +kernel
theorem dL_law_2854 : decode cL_law 2854 = .ok (.aload_n 1, 1) := by decide +kernel
theorem dL_law_2855 : decode cL_law 2855 = .ok (.aload_n 0, 1) := by decide +kernel
theorem dL_law_2856 : decode cL_law 2856 = .ok (.iload 5, 2) := by decide +kernel
theorem dL_law_2858 : decode cL_law 2858 = .ok (.iconst 1, 1) := by decide +kernel
theorem dL_law_2859 : decode cL_law 2859 = .ok (.iadd, 1) := by decide +kernel
theorem dL_law_2860 : decode cL_law 2860 = .ok (.iaload, 1) := by decide +kernel
theorem dL_law_2861 : decode cL_law 2861 = .ok (.aload_n 0, 1) := by decide +kernel
theorem dL_law_2862 : decode cL_law 2862 = .ok (.iload 5, 2) := by decide +kernel
theorem dL_law_2864 : decode cL_law 2864 = .ok (.iconst 2, 1) := by decide +kernel
theorem dL_law_2865 : decode cL_law 2865 = .ok (.iadd, 1) := by decide +kernel
theorem dL_law_2866 : decode cL_law 2866 = .ok (.iaload, 1) := by decide +kernel
theorem dL_law_2867 : decode cL_law 2867 = .ok (.aload_n 3, 1) := by decide +kernel
theorem dL_law_2868 : decode cL_law 2868 = .ok (.invokestatic 358, 3) := by decide +kernel
theorem dL_law_2871 : decode cL_law 2871 = .ok (.istore 6, 2) := by decide +kernel
theorem dL_law_2873 : decode cL_law 2873 = .ok (.aload_n 2, 1) := by decide +kernel
theorem dL_law_2874 : decode cL_law 2874 = .ok (.aload_n 0, 1) := by decide +kernel
theorem dL_law_2875 : decode cL_law 2875 = .ok (.iload 5, 2) := by decide +kernel
theorem dL_law_2877 : decode cL_law 2877 = .ok (.iconst 1, 1) := by decide +kernel
theorem dL_law_2878 : decode cL_law 2878 = .ok (.iadd, 1) := by decide +kernel
theorem dL_law_2879 : decode cL_law 2879 = .ok (.iaload, 1) := by decide +kernel
theorem dL_law_2880 : decode cL_law 2880 = .ok (.aload_n 0, 1) := by decide +kernel
theorem dL_law_2881 : decode cL_law 2881 = .ok (.iload 5, 2) := by decide +kernel
theorem dL_law_2883 : decode cL_law 2883 = .ok (.iconst 2, 1) := by decide +kernel
theorem dL_law_2884 : decode cL_law 2884 = .ok (.iadd, 1) := by decide +kernel
theorem dL_law_2885 : decode cL_law 2885 = .ok (.iaload, 1) := by decide +kernel
theorem dL_law_2886 : decode cL_law 2886 = .ok (.invokevirtual 360, 3) := by decide +kernel
theorem dL_law_2889 : decode cL_law 2889 = .ok (.istore 7, 2) := by decide +kernel
theorem dL_law_2891 : decode cL_law 2891 = .ok (.aload_n 2, 1) := by decide +kernel
theorem dL_law_2892 : decode cL_law 2892 = .ok (.invokevirtual 175, 3) := by decide +kernel
theorem dL_law_2895 : decode cL_law 2895 = .ok (.iload 6, 2) := by decide +kernel
theorem dL_law_2897 : decode cL_law 2897 = .ok (.if_icmp .eq 5, 3) := by decide +kernel
theorem dL_law_2900 : decode cL_law 2900 = .ok (.iconst 0, 1) := by decide +kernel
theorem dL_law_2901 : decode cL_law 2901 = .ok (.ireturn, 1) := by decide +kernel
theorem dL_law_2902 : decode cL_law 2902 = .ok (.iload 6, 2) := by decide +kernel
theorem dL_law_2904 : decode cL_law 2904 = .ok (.ifCond .ne 15, 3) := by decide +kernel
theorem dL_law_2907 : decode cL_law 2907 = .ok (.aload_n 3, 1) := by decide +kernel
theorem dL_law_2908 : decode cL_law 2908 = .ok (.iconst 0, 1) := by decide +kernel
theorem dL_law_2909 : decode cL_law 2909 = .ok (.laload, 1) := by decide +kernel
theorem dL_law_2910 : decode cL_law 2910 = .ok (.iload 7, 2) := by decide +kernel
theorem dL_law_2912 : decode cL_law 2912 = .ok (.i2l, 1) := by decide +kernel
theorem dL_law_2913 : decode cL_law 2913 = .ok (.lcmp, 1) := by decide +kernel
theorem dL_law_2914 : decode cL_law 2914 = .ok (.ifCond .eq 5, 3) := by decide +kernel
theorem dL_law_2917 : decode cL_law 2917 = .ok (.iconst 0, 1) := by decide +kernel
theorem dL_law_2918 : decode cL_law 2918 = .ok (.ireturn, 1) := by decide +kernel
theorem dL_law_2919 : decode cL_law 2919 = .ok (.goto 385, 3) := by decide +kernel
theorem dL_law_2922 : decode cL_law 2922 = .ok (.aload_n 1, 1) := by decide +kernel
theorem dL_law_2923 : decode cL_law 2923 = .ok (.aload_n 0, 1) := by decide +kernel
theorem dL_law_2924 : decode cL_law 2924 = .ok (.iload 5, 2) := by decide +kernel
theorem dL_law_2926 : decode cL_law 2926 = .ok (.iconst 1, 1) := by decide +kernel
theorem dL_law_2927 : decode cL_law 2927 = .ok (.iadd, 1) := by decide +kernel
theorem dL_law_2928 : decode cL_law 2928 = .ok (.iaload, 1) := by decide +kernel
theorem dL_law_2929 : decode cL_law 2929 = .ok (.aload_n 3, 1) := by decide +kernel
theorem dL_law_2930 : decode cL_law 2930 = .ok (.invokestatic 361, 3) := by decide +kernel
theorem dL_law_2933 : decode cL_law 2933 = .ok (.istore 6, 2) := by decide +kernel
theorem dL_law_2935 : decode cL_law 2935 = .ok (.aload_n 2, 1) := by decide +kernel
theorem dL_law_2936 : decode cL_law 2936 = .ok (.aload_n 0, 1) := by decide +kernel
theorem dL_law_2937 : decode cL_law 2937 = .ok (.iload 5, 2) := by decide +kernel
theorem dL_law_2939 : decode cL_law 2939 = .ok (.iconst 1, 1) := by decide +kernel
theorem dL_law_2940 : decode cL_law 2940 = .ok (.iadd, 1) := by decide +kernel
theorem dL_law_2941 : decode cL_law 2941 = .ok (.iaload, 1) := by decide +kernel
theorem dL_law_2942 : decode cL_law 2942 = .ok (.invokevirtual 363, 3) := by decide +kernel
theorem dL_law_2945 : decode cL_law 2945 = .ok (.istore 7, 2) := by decide +kernel
theorem dL_law_2947 : decode cL_law 2947 = .ok (.aload_n 2, 1) := by decide +kernel
theorem dL_law_2948 : decode cL_law 2948 = .ok (.invokevirtual 175, 3) := by decide +kernel
theorem dL_law_2951 : decode cL_law 2951 = .ok (.iload 6, 2) := by decide +kernel
theorem dL_law_2953 : decode cL_law 2953 = .ok (.if_icmp .eq 5, 3) := by decide +kernel
theorem dL_law_2956 : decode cL_law 2956 = .ok (.iconst 0, 1) := by decide +kernel
theorem dL_law_2957 : decode cL_law 2957 = .ok (.ireturn, 1) := by decide +kernel
theorem dL_law_2958 : decode cL_law 2958 = .ok (.iload 6, 2) := by decide +kernel
theorem dL_law_2960 : decode cL_law 2960 = .ok (.ifCond .ne 15, 3) := by decide +kernel
theorem dL_law_2963 : decode cL_law 2963 = .ok (.aload_n 3, 1) := by decide +kernel
theorem dL_law_2964 : decode cL_law 2964 = .ok (.iconst 0, 1) := by decide +kernel
theorem dL_law_2965 : decode cL_law 2965 = .ok (.laload, 1) := by decide +kernel
theorem dL_law_2966 : decode cL_law 2966 = .ok (.iload 7, 2) := by decide +kernel
theorem dL_law_2968 : decode cL_law 2968 = .ok (.i2l, 1) := by decide +kernel
theorem dL_law_2969 : decode cL_law 2969 = .ok (.lcmp, 1) := by decide +kernel
theorem dL_law_2970 : decode cL_law 2970 = .ok (.ifCond .eq 5, 3) := by decide +kernel
theorem dL_law_2973 : decode cL_law 2973 = .ok (.iconst 0, 1) := by decide +kernel
theorem dL_law_2974 : decode cL_law 2974 = .ok (.ireturn, 1) := by decide +kernel
theorem dL_law_2975 : decode cL_law 2975 = .ok (.goto 329, 3) := by decide +kernel
theorem dL_law_2978 : decode cL_law 2978 = .ok (.aload_n 1, 1) := by decide +kernel
theorem dL_law_2979 : decode cL_law 2979 = .ok (.aload_n 0, 1) := by decide +kernel
theorem dL_law_2980 : decode cL_law 2980 = .ok (.iload 5, 2) := by decide +kernel
theorem dL_law_2982 : decode cL_law 2982 = .ok (.iconst 1, 1) := by decide +kernel
theorem dL_law_2983 : decode cL_law 2983 = .ok (.iadd, 1) := by decide +kernel
theorem dL_law_2984 : decode cL_law 2984 = .ok (.iaload, 1) := by decide +kernel
theorem dL_law_2985 : decode cL_law 2985 = .ok (.aload_n 3, 1) := by decide +kernel
theorem dL_law_2986 : decode cL_law 2986 = .ok (.invokestatic 364, 3) := by decide +kernel
theorem dL_law_2989 : decode cL_law 2989 = .ok (.istore 6, 2) := by decide +kernel
theorem dL_law_2991 : decode cL_law 2991 = .ok (.aload_n 2, 1) := by decide +kernel
theorem dL_law_2992 : decode cL_law 2992 = .ok (.aload_n 0, 1) := by decide +kernel
theorem dL_law_2993 : decode cL_law 2993 = .ok (.iload 5, 2) := by decide +kernel
theorem dL_law_2995 : decode cL_law 2995 = .ok (.iconst 1, 1) := by decide +kernel
theorem dL_law_2996 : decode cL_law 2996 = .ok (.iadd, 1) := by decide +kernel
theorem dL_law_2997 : decode cL_law 2997 = .ok (.iaload, 1) := by decide +kernel
theorem dL_law_2998 : decode cL_law 2998 = .ok (.invokevirtual 366, 3) := by decide +kernel
theorem dL_law_3001 : decode cL_law 3001 = .ok (.istore 7, 2) := by decide +kernel
theorem dL_law_3003 : decode cL_law 3003 = .ok (.aload_n 2, 1) := by decide +kernel
theorem dL_law_3004 : decode cL_law 3004 = .ok (.invokevirtual 175, 3) := by decide +kernel
theorem dL_law_3007 : decode cL_law 3007 = .ok (.iload 6, 2) := by decide +kernel
theorem dL_law_3009 : decode cL_law 3009 = .ok (.if_icmp .eq 5, 3) := by decide +kernel
theorem dL_law_3012 : decode cL_law 3012 = .ok (.iconst 0, 1) := by decide +kernel
theorem dL_law_3013 : decode cL_law 3013 = .ok (.ireturn, 1) := by decide +kernel
theorem dL_law_3014 : decode cL_law 3014 = .ok (.iload 6, 2) := by decide +kernel
theorem dL_law_3016 : decode cL_law 3016 = .ok (.ifCond .ne 15, 3) := by decide +kernel
theorem dL_law_3019 : decode cL_law 3019 = .ok (.aload_n 3, 1) := by decide +kernel
theorem dL_law_3020 : decode cL_law 3020 = .ok (.iconst 0, 1) := by decide +kernel
theorem dL_law_3021 : decode cL_law 3021 = .ok (.laload, 1) := by decide +kernel
theorem dL_law_3022 : decode cL_law 3022 = .ok (.iload 7, 2) := by decide +kernel
theorem dL_law_3024 : decode cL_law 3024 = .ok (.i2l, 1) := by decide +kernel
theorem dL_law_3025 : decode cL_law 3025 = .ok (.lcmp, 1) := by decide +kernel
theorem dL_law_3026 : decode cL_law 3026 = .ok (.ifCond .eq 5, 3) := by decide +kernel
theorem dL_law_3029 : decode cL_law 3029 = .ok (.iconst 0, 1) := by decide +kernel
theorem dL_law_3030 : decode cL_law 3030 = .ok (.ireturn, 1) := by decide +kernel
theorem dL_law_3031 : decode cL_law 3031 = .ok (.goto 273, 3) := by decide +kernel
theorem dL_law_3034 : decode cL_law 3034 = .ok (.aload_n 1, 1) := by decide +kernel
theorem dL_law_3035 : decode cL_law 3035 = .ok (.aload_n 3, 1) := by decide +kernel
theorem dL_law_3036 : decode cL_law 3036 = .ok (.invokestatic 367, 3) := by decide +kernel
theorem dL_law_3039 : decode cL_law 3039 = .ok (.istore 6, 2) := by decide +kernel
theorem dL_law_3041 : decode cL_law 3041 = .ok (.aload_n 2, 1) := by decide +kernel
theorem dL_law_3042 : decode cL_law 3042 = .ok (.invokevirtual 369, 3) := by decide +kernel
theorem dL_law_3045 : decode cL_law 3045 = .ok (.istore 7, 2) := by decide +kernel
theorem dL_law_3047 : decode cL_law 3047 = .ok (.aload_n 2, 1) := by decide +kernel
theorem dL_law_3048 : decode cL_law 3048 = .ok (.invokevirtual 175, 3) := by decide +kernel
theorem dL_law_3051 : decode cL_law 3051 = .ok (.iload 6, 2) := by decide +kernel
theorem dL_law_3053 : decode cL_law 3053 = .ok (.if_icmp .eq 5, 3) := by decide +kernel
theorem dL_law_3056 : decode cL_law 3056 = .ok (.iconst 0, 1) := by decide +kernel
theorem dL_law_3057 : decode cL_law 3057 = .ok (.ireturn, 1) := by decide +kernel
theorem dL_law_3058 : decode cL_law 3058 = .ok (.iload 6, 2) := by decide +kernel
theorem dL_law_3060 : decode cL_law 3060 = .ok (.ifCond .ne 15, 3) := by decide +kernel
theorem dL_law_3063 : decode cL_law 3063 = .ok (.aload_n 3, 1) := by decide +kernel
theorem dL_law_3064 : decode cL_law 3064 = .ok (.iconst 0, 1) := by decide +kernel
theorem dL_law_3065 : decode cL_law 3065 = .ok (.laload, 1) := by decide +kernel
theorem dL_law_3066 : decode cL_law 3066 = .ok (.iload 7, 2) := by decide +kernel
theorem dL_law_3068 : decode cL_law 3068 = .ok (.i2l, 1) := by decide +kernel
theorem dL_law_3069 : decode cL_law 3069 = .ok (.lcmp, 1) := by decide +kernel
theorem dL_law_3070 : decode cL_law 3070 = .ok (.ifCond .eq 5, 3) := by decide +kernel
theorem dL_law_3073 : decode cL_law 3073 = .ok (.iconst 0, 1) := by decide +kernel
theorem dL_law_3074 : decode cL_law 3074 = .ok (.ireturn, 1) := by decide +kernel
theorem dL_law_3075 : decode cL_law 3075 = .ok (.goto 229, 3) := by decide +kernel
theorem dL_law_3078 : decode cL_law 3078 = .ok (.aload_n 1, 1) := by decide +kernel
theorem dL_law_3079 : decode cL_law 3079 = .ok (.aload_n 3, 1) := by decide +kernel
theorem dL_law_3080 : decode cL_law 3080 = .ok (.invokestatic 370, 3) := by decide +kernel
theorem dL_law_3083 : decode cL_law 3083 = .ok (.istore 6, 2) := by decide +kernel
theorem dL_law_3085 : decode cL_law 3085 = .ok (.aload_n 2, 1) := by decide +kernel
theorem dL_law_3086 : decode cL_law 3086 = .ok (.invokevirtual 372, 3) := by decide +kernel
theorem dL_law_3089 : decode cL_law 3089 = .ok (.istore 7, 2) := by decide +kernel
theorem dL_law_3091 : decode cL_law 3091 = .ok (.aload_n 2, 1) := by decide +kernel
theorem dL_law_3092 : decode cL_law 3092 = .ok (.invokevirtual 175, 3) := by decide +kernel
theorem dL_law_3095 : decode cL_law 3095 = .ok (.iload 6, 2) := by decide +kernel
theorem dL_law_3097 : decode cL_law 3097 = .ok (.if_icmp .eq 5, 3) := by decide +kernel
theorem dL_law_3100 : decode cL_law 3100 = .ok (.iconst 0, 1) := by decide +kernel
theorem dL_law_3101 : decode cL_law 3101 = .ok (.ireturn, 1) := by decide +kernel
theorem dL_law_3102 : decode cL_law 3102 = .ok (.iload 6, 2) := by decide +kernel
theorem dL_law_3104 : decode cL_law 3104 = .ok (.ifCond .ne 15, 3) := by decide +kernel
theorem dL_law_3107 : decode cL_law 3107 = .ok (.aload_n 3, 1) := by decide +kernel
theorem dL_law_3108 : decode cL_law 3108 = .ok (.iconst 0, 1) := by decide +kernel
theorem dL_law_3109 : decode cL_law 3109 = .ok (.laload, 1) := by decide +kernel
theorem dL_law_3110 : decode cL_law 3110 = .ok (.iload 7, 2) := by decide +kernel
theorem dL_law_3112 : decode cL_law 3112 = .ok (.i2l, 1) := by decide +kernel
theorem dL_law_3113 : decode cL_law 3113 = .ok (.lcmp, 1) := by decide +kernel
theorem dL_law_3114 : decode cL_law 3114 = .ok (.ifCond .eq 5, 3) := by decide +kernel
theorem dL_law_3117 : decode cL_law 3117 = .ok (.iconst 0, 1) := by decide +kernel
theorem dL_law_3118 : decode cL_law 3118 = .ok (.ireturn, 1) := by decide +kernel
theorem dL_law_3119 : decode cL_law 3119 = .ok (.goto 185, 3) := by decide +kernel
theorem dL_law_3122 : decode cL_law 3122 = .ok (.aload_n 1, 1) := by decide +kernel
theorem dL_law_3123 : decode cL_law 3123 = .ok (.aload_n 0, 1) := by decide +kernel
theorem dL_law_3124 : decode cL_law 3124 = .ok (.iload 5, 2) := by decide +kernel
theorem dL_law_3126 : decode cL_law 3126 = .ok (.iconst 1, 1) := by decide +kernel
theorem dL_law_3127 : decode cL_law 3127 = .ok (.iadd, 1) := by decide +kernel
theorem dL_law_3128 : decode cL_law 3128 = .ok (.iaload, 1) := by decide +kernel
theorem dL_law_3129 : decode cL_law 3129 = .ok (.aload_n 3, 1) := by decide +kernel
theorem dL_law_3130 : decode cL_law 3130 = .ok (.invokestatic 373, 3) := by decide +kernel
theorem dL_law_3133 : decode cL_law 3133 = .ok (.istore 6, 2) := by decide +kernel
theorem dL_law_3135 : decode cL_law 3135 = .ok (.aload_n 2, 1) := by decide +kernel
theorem dL_law_3136 : decode cL_law 3136 = .ok (.aload_n 0, 1) := by decide +kernel
theorem dL_law_3137 : decode cL_law 3137 = .ok (.iload 5, 2) := by decide +kernel
theorem dL_law_3139 : decode cL_law 3139 = .ok (.iconst 1, 1) := by decide +kernel
theorem dL_law_3140 : decode cL_law 3140 = .ok (.iadd, 1) := by decide +kernel
theorem dL_law_3141 : decode cL_law 3141 = .ok (.iaload, 1) := by decide +kernel
theorem dL_law_3142 : decode cL_law 3142 = .ok (.invokevirtual 375, 3) := by decide +kernel
theorem dL_law_3145 : decode cL_law 3145 = .ok (.istore 7, 2) := by decide +kernel
theorem dL_law_3147 : decode cL_law 3147 = .ok (.aload_n 2, 1) := by decide +kernel
theorem dL_law_3148 : decode cL_law 3148 = .ok (.invokevirtual 175, 3) := by decide +kernel
theorem dL_law_3151 : decode cL_law 3151 = .ok (.iload 6, 2) := by decide +kernel
theorem dL_law_3153 : decode cL_law 3153 = .ok (.if_icmp .eq 5, 3) := by decide +kernel
theorem dL_law_3156 : decode cL_law 3156 = .ok (.iconst 0, 1) := by decide +kernel
theorem dL_law_3157 : decode cL_law 3157 = .ok (.ireturn, 1) := by decide +kernel
theorem dL_law_3158 : decode cL_law 3158 = .ok (.iload 6, 2) := by decide +kernel
theorem dL_law_3160 : decode cL_law 3160 = .ok (.ifCond .ne 15, 3) := by decide +kernel
theorem dL_law_3163 : decode cL_law 3163 = .ok (.aload_n 3, 1) := by decide +kernel
theorem dL_law_3164 : decode cL_law 3164 = .ok (.iconst 0, 1) := by decide +kernel
theorem dL_law_3165 : decode cL_law 3165 = .ok (.laload, 1) := by decide +kernel
theorem dL_law_3166 : decode cL_law 3166 = .ok (.iload 7, 2) := by decide +kernel
theorem dL_law_3168 : decode cL_law 3168 = .ok (.i2l, 1) := by decide +kernel
theorem dL_law_3169 : decode cL_law 3169 = .ok (.lcmp, 1) := by decide +kernel
theorem dL_law_3170 : decode cL_law 3170 = .ok (.ifCond .eq 5, 3) := by decide +kernel
theorem dL_law_3173 : decode cL_law 3173 = .ok (.iconst 0, 1) := by decide +kernel
theorem dL_law_3174 : decode cL_law 3174 = .ok (.ireturn, 1) := by decide +kernel
theorem dL_law_3175 : decode cL_law 3175 = .ok (.goto 129, 3) := by decide +kernel
theorem dL_law_3178 : decode cL_law 3178 = .ok (.aload_n 1, 1) := by decide +kernel
theorem dL_law_3179 : decode cL_law 3179 = .ok (.invokevirtual 376, 3) := by decide +kernel
theorem dL_law_3182 : decode cL_law 3182 = .ok (.aload_n 2, 1) := by decide +kernel
theorem dL_law_3183 : decode cL_law 3183 = .ok (.invokevirtual 379, 3) := by decide +kernel
theorem dL_law_3186 : decode cL_law 3186 = .ok (.if_icmp .eq 118, 3) := by decide +kernel
theorem dL_law_3189 : decode cL_law 3189 = .ok (.iconst 0, 1) := by decide +kernel
theorem dL_law_3190 : decode cL_law 3190 = .ok (.ireturn, 1) := by decide +kernel
theorem dL_law_3191 : decode cL_law 3191 = .ok (.aload_n 1, 1) := by decide +kernel
theorem dL_law_3192 : decode cL_law 3192 = .ok (.aload_n 0, 1) := by decide +kernel
theorem dL_law_3193 : decode cL_law 3193 = .ok (.iload 5, 2) := by decide +kernel
theorem dL_law_3195 : decode cL_law 3195 = .ok (.iconst 1, 1) := by decide +kernel
theorem dL_law_3196 : decode cL_law 3196 = .ok (.iadd, 1) := by decide +kernel
theorem dL_law_3197 : decode cL_law 3197 = .ok (.iaload, 1) := by decide +kernel
theorem dL_law_3198 : decode cL_law 3198 = .ok (.aload_n 3, 1) := by decide +kernel
theorem dL_law_3199 : decode cL_law 3199 = .ok (.invokestatic 380, 3) := by decide +kernel
theorem dL_law_3202 : decode cL_law 3202 = .ok (.istore 6, 2) := by decide +kernel
theorem dL_law_3204 : decode cL_law 3204 = .ok (.aload_n 2, 1) := by decide +kernel
theorem dL_law_3205 : decode cL_law 3205 = .ok (.aload_n 0, 1) := by decide +kernel
theorem dL_law_3206 : decode cL_law 3206 = .ok (.iload 5, 2) := by decide +kernel
theorem dL_law_3208 : decode cL_law 3208 = .ok (.iconst 1, 1) := by decide +kernel
theorem dL_law_3209 : decode cL_law 3209 = .ok (.iadd, 1) := by decide +kernel
theorem dL_law_3210 : decode cL_law 3210 = .ok (.iaload, 1) := by decide +kernel
theorem dL_law_3211 : decode cL_law 3211 = .ok (.invokevirtual 382, 3) := by decide +kernel
theorem dL_law_3214 : decode cL_law 3214 = .ok (.istore 7, 2) := by decide +kernel
theorem dL_law_3216 : decode cL_law 3216 = .ok (.aload_n 2, 1) := by decide +kernel
theorem dL_law_3217 : decode cL_law 3217 = .ok (.invokevirtual 175, 3) := by decide +kernel
theorem dL_law_3220 : decode cL_law 3220 = .ok (.iload 6, 2) := by decide +kernel
theorem dL_law_3222 : decode cL_law 3222 = .ok (.if_icmp .eq 5, 3) := by decide +kernel
theorem dL_law_3225 : decode cL_law 3225 = .ok (.iconst 0, 1) := by decide +kernel
theorem dL_law_3226 : decode cL_law 3226 = .ok (.ireturn, 1) := by decide +kernel
theorem dL_law_3227 : decode cL_law 3227 = .ok (.iload 6, 2) := by decide +kernel
theorem dL_law_3229 : decode cL_law 3229 = .ok (.ifCond .ne 15, 3) := by decide +kernel
theorem dL_law_3232 : decode cL_law 3232 = .ok (.aload_n 3, 1) := by decide +kernel
theorem dL_law_3233 : decode cL_law 3233 = .ok (.iconst 0, 1) := by decide +kernel
theorem dL_law_3234 : decode cL_law 3234 = .ok (.laload, 1) := by decide +kernel
theorem dL_law_3235 : decode cL_law 3235 = .ok (.iload 7, 2) := by decide +kernel
theorem dL_law_3237 : decode cL_law 3237 = .ok (.i2l, 1) := by decide +kernel
theorem dL_law_3238 : decode cL_law 3238 = .ok (.lcmp, 1) := by decide +kernel
theorem dL_law_3239 : decode cL_law 3239 = .ok (.ifCond .eq 5, 3) := by decide +kernel
theorem dL_law_3242 : decode cL_law 3242 = .ok (.iconst 0, 1) := by decide +kernel
theorem dL_law_3243 : decode cL_law 3243 = .ok (.ireturn, 1) := by decide +kernel
theorem dL_law_3244 : decode cL_law 3244 = .ok (.goto 60, 3) := by decide +kernel
theorem dL_law_3247 : decode cL_law 3247 = .ok (.aload_n 1, 1) := by decide +kernel
theorem dL_law_3248 : decode cL_law 3248 = .ok (.aload_n 3, 1) := by decide +kernel
theorem dL_law_3249 : decode cL_law 3249 = .ok (.invokestatic 383, 3) := by decide +kernel
theorem dL_law_3252 : decode cL_law 3252 = .ok (.istore 6, 2) := by decide +kernel
theorem dL_law_3254 : decode cL_law 3254 = .ok (.aload_n 2, 1) := by decide +kernel
theorem dL_law_3255 : decode cL_law 3255 = .ok (.invokevirtual 385, 3) := by decide +kernel
theorem dL_law_3258 : decode cL_law 3258 = .ok (.istore 7, 2) := by decide +kernel
theorem dL_law_3260 : decode cL_law 3260 = .ok (.aload_n 2, 1) := by decide +kernel
theorem dL_law_3261 : decode cL_law 3261 = .ok (.invokevirtual 175, 3) := by decide +kernel
theorem dL_law_3264 : decode cL_law 3264 = .ok (.iload 6, 2) := by decide +kernel
theorem dL_law_3266 : decode cL_law 3266 = .ok (.if_icmp .eq 5, 3) := by decide +kernel
theorem dL_law_3269 : decode cL_law 3269 = .ok (.iconst 0, 1) := by decide +kernel
theorem dL_law_3270 : decode cL_law 3270 = .ok (.ireturn, 1) := by decide +kernel
theorem dL_law_3271 : decode cL_law 3271 = .ok (.iload 6, 2) := by decide +kernel
theorem dL_law_3273 : decode cL_law 3273 = .ok (.ifCond .ne 15, 3) := by decide +kernel
theorem dL_law_3276 : decode cL_law 3276 = .ok (.aload_n 3, 1) := by decide +kernel
theorem dL_law_3277 : decode cL_law 3277 = .ok (.iconst 0, 1) := by decide +kernel
theorem dL_law_3278 : decode cL_law 3278 = .ok (.laload, 1) := by decide +kernel
theorem dL_law_3279 : decode cL_law 3279 = .ok (.iload 7, 2) := by decide +kernel
theorem dL_law_3281 : decode cL_law 3281 = .ok (.i2l, 1) := by decide +kernel
theorem dL_law_3282 : decode cL_law 3282 = .ok (.lcmp, 1) := by decide +kernel
theorem dL_law_3283 : decode cL_law 3283 = .ok (.ifCond .eq 5, 3) := by decide +kernel
theorem dL_law_3286 : decode cL_law 3286 = .ok (.iconst 0, 1) := by decide +kernel
theorem dL_law_3287 : decode cL_law 3287 = .ok (.ireturn, 1) := by decide +kernel
theorem dL_law_3288 : decode cL_law 3288 = .ok (.goto 16, 3) := by decide +kernel
theorem dL_law_3291 : decode cL_law 3291 = .ok (.aload_n 1, 1) := by decide +kernel
theorem dL_law_3292 : decode cL_law 3292 = .ok (.invokevirtual 386, 3) := by decide +kernel
theorem dL_law_3295 : decode cL_law 3295 = .ok (.aload_n 2, 1) := by decide +kernel
theorem dL_law_3296 : decode cL_law 3296 = .ok (.invokevirtual 389, 3) := by decide +kernel
theorem dL_law_3299 : decode cL_law 3299 = .ok (.if_icmp .eq 5, 3) := by decide +kernel
theorem dL_law_3302 : decode cL_law 3302 = .ok (.iconst 0, 1) := by decide +kernel
theorem dL_law_3303 : decode cL_law 3303 = .ok (.ireturn, 1) := by decide +kernel
theorem dL_law_3304 : decode cL_law 3304 = .ok (.iinc 5 6, 3) := by decide +kernel
theorem dL_law_3307 : decode cL_law 3307 = .ok (.goto (-3279), 3) := by decide +kernel
theorem dL_law_3310 : decode cL_law 3310 = .ok (.iconst 1, 1) := by decide +kernel
theorem dL_law_3311 : decode cL_law 3311 = .ok (.ireturn, 1) := by decide +kernel
