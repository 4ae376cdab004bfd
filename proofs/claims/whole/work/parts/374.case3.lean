theorem dL_law_2762 : decode cL_law 2762 = .ok (.aload_n 1, 1) := by decide +kernel
theorem dL_law_2763 : decode cL_law 2763 = .ok (.aload_n 0, 1) := by decide +kernel
theorem dL_law_2764 : decode cL_law 2764 = .ok (.iload 4, 2) := by decide +kernel
theorem dL_law_2766 : decode cL_law 2766 = .ok (.iconst 1, 1) := by decide +kernel
theorem dL_law_2767 : decode cL_law 2767 = .ok (.iadd, 1) := by decide +kernel
theorem dL_law_2768 : decode cL_law 2768 = .ok (.iaload, 1) := by decide +kernel
theorem dL_law_2769 : decode cL_law 2769 = .ok (.aload_n 0, 1) := by decide +kernel
theorem dL_law_2770 : decode cL_law 2770 = .ok (.iload 4, 2) := by decide +kernel
theorem dL_law_2772 : decode cL_law 2772 = .ok (.iconst 2, 1) := by decide +kernel
theorem dL_law_2773 : decode cL_law 2773 = .ok (.iadd, 1) := by decide +kernel
theorem dL_law_2774 : decode cL_law 2774 = .ok (.iaload, 1) := by decide +kernel
theorem dL_law_2775 : decode cL_law 2775 = .ok (.aload_n 3, 1) := by decide +kernel
theorem dL_law_2776 : decode cL_law 2776 = .ok (.invokestatic 321, 3) := by decide +kernel
theorem dL_law_2779 : decode cL_law 2779 = .ok (.istore 5, 2) := by decide +kernel
theorem dL_law_2781 : decode cL_law 2781 = .ok (.aload_n 2, 1) := by decide +kernel
theorem dL_law_2782 : decode cL_law 2782 = .ok (.aload_n 0, 1) := by decide +kernel
theorem dL_law_2783 : decode cL_law 2783 = .ok (.iload 4, 2) := by decide +kernel
theorem dL_law_2785 : decode cL_law 2785 = .ok (.iconst 1, 1) := by decide +kernel
theorem dL_law_2786 : decode cL_law 2786 = .ok (.iadd, 1) := by decide +kernel
theorem dL_law_2787 : decode cL_law 2787 = .ok (.iaload, 1) := by decide +kernel
theorem dL_law_2788 : decode cL_law 2788 = .ok (.aload_n 0, 1) := by decide +kernel
theorem dL_law_2789 : decode cL_law 2789 = .ok (.iload 4, 2) := by decide +kernel
theorem dL_law_2791 : decode cL_law 2791 = .ok (.iconst 2, 1) := by decide +kernel
theorem dL_law_2792 : decode cL_law 2792 = .ok (.iadd, 1) := by decide +kernel
theorem dL_law_2793 : decode cL_law 2793 = .ok (.iaload, 1) := by decide +kernel
theorem dL_law_2794 : decode cL_law 2794 = .ok (.invokevirtual 323, 3) := by decide +kernel
theorem dL_law_2797 : decode cL_law 2797 = .ok (.istore 6, 2) := by decide +kernel
theorem dL_law_2799 : decode cL_law 2799 = .ok (.aload_n 2, 1) := by decide +kernel
theorem dL_law_2800 : decode cL_law 2800 = .ok (.invokevirtual 178, 3) := by decide +kernel
theorem dL_law_2803 : decode cL_law 2803 = .ok (.iload 5, 2) := by decide +kernel
theorem dL_law_2805 : decode cL_law 2805 = .ok (.if_icmp .eq 5, 3) := by decide +kernel
theorem dL_law_2810 : decode cL_law 2810 = .ok (.iload 5, 2) := by decide +kernel
theorem dL_law_2812 : decode cL_law 2812 = .ok (.ifCond .ne 15, 3) := by decide +kernel
theorem dL_law_2815 : decode cL_law 2815 = .ok (.aload_n 3, 1) := by decide +kernel
theorem dL_law_2816 : decode cL_law 2816 = .ok (.iconst 0, 1) := by decide +kernel
theorem dL_law_2817 : decode cL_law 2817 = .ok (.laload, 1) := by decide +kernel
theorem dL_law_2818 : decode cL_law 2818 = .ok (.iload 6, 2) := by decide +kernel
theorem dL_law_2820 : decode cL_law 2820 = .ok (.i2l, 1) := by decide +kernel
theorem dL_law_2821 : decode cL_law 2821 = .ok (.lcmp, 1) := by decide +kernel
theorem dL_law_2822 : decode cL_law 2822 = .ok (.ifCond .eq 5, 3) := by decide +kernel
theorem dL_law_2827 : decode cL_law 2827 = .ok (.goto 596, 3) := by decide +kernel
theorem dL_law_2830 : decode cL_law 2830 = .ok (.aload_n 1, 1) := by decide +kernel
theorem dL_law_2831 : decode cL_law 2831 = .ok (.aload_n 0, 1) := by decide +kernel
theorem dL_law_2832 : decode cL_law 2832 = .ok (.iload 4, 2) := by decide +kernel
theorem dL_law_2834 : decode cL_law 2834 = .ok (.iconst 1, 1) := by decide +kernel
theorem dL_law_2835 : decode cL_law 2835 = .ok (.iadd, 1) := by decide +kernel
theorem dL_law_2836 : decode cL_law 2836 = .ok (.iaload, 1) := by decide +kernel
theorem dL_law_2837 : decode cL_law 2837 = .ok (.aload_n 0, 1) := by decide +kernel
theorem dL_law_2838 : decode cL_law 2838 = .ok (.iload 4, 2) := by decide +kernel
theorem dL_law_2840 : decode cL_law 2840 = .ok (.iconst 2, 1) := by decide +kernel
theorem dL_law_2841 : decode cL_law 2841 = .ok (.iadd, 1) := by decide +kernel
theorem dL_law_2842 : decode cL_law 2842 = .ok (.iaload, 1) := by decide +kernel
theorem dL_law_2843 : decode cL_law 2843 = .ok (.aload_n 0, 1) := by decide +kernel
theorem dL_law_2844 : decode cL_law 2844 = .ok (.iload 4, 2) := by decide +kernel
theorem dL_law_2846 : decode cL_law 2846 = .ok (.iconst 3, 1) := by decide +kernel
theorem dL_law_2847 : decode cL_law 2847 = .ok (.iadd, 1) := by decide +kernel
theorem dL_law_2848 : decode cL_law 2848 = .ok (.iaload, 1) := by decide +kernel
theorem dL_law_2849 : decode cL_law 2849 = .ok (.aload_n 3, 1) := by decide +kernel
theorem dL_law_2850 : decode cL_law 2850 = .ok (.invokestatic 324, 3) := by decide +kernel
theorem dL_law_2853 : decode cL_law 2853 = .ok (.istore 5, 2) := by decide +kernel
theorem dL_law_2855 : decode cL_law 2855 = .ok (.aload_n 2, 1) := by decide +kernel
theorem dL_law_2856 : decode cL_law 2856 = .ok (.aload_n 0, 1) := by decide +kernel
theorem dL_law_2857 : decode cL_law 2857 = .ok (.iload 4, 2) := by decide +kernel
theorem dL_law_2859 : decode cL_law 2859 = .ok (.iconst 1, 1) := by decide +kernel
theorem dL_law_2860 : decode cL_law 2860 = .ok (.iadd, 1) := by decide +kernel
theorem dL_law_2861 : decode cL_law 2861 = .ok (.iaload, 1) := by decide +kernel
theorem dL_law_2862 : decode cL_law 2862 = .ok (.aload_n 0, 1) := by decide +kernel
theorem dL_law_2863 : decode cL_law 2863 = .ok (.iload 4, 2) := by decide +kernel
theorem dL_law_2865 : decode cL_law 2865 = .ok (.iconst 2, 1) := by decide +kernel
theorem dL_law_2866 : decode cL_law 2866 = .ok (.iadd, 1) := by decide +kernel
theorem dL_law_2867 : decode cL_law 2867 = .ok (.iaload, 1) := by decide +kernel
theorem dL_law_2868 : decode cL_law 2868 = .ok (.aload_n 0, 1) := by decide +kernel
theorem dL_law_2869 : decode cL_law 2869 = .ok (.iload 4, 2) := by decide +kernel
theorem dL_law_2871 : decode cL_law 2871 = .ok (.iconst 3, 1) := by decide +kernel
theorem dL_law_2872 : decode cL_law 2872 = .ok (.iadd, 1) := by decide +kernel
theorem dL_law_2873 : decode cL_law 2873 = .ok (.iaload, 1) := by decide +kernel
theorem dL_law_2874 : decode cL_law 2874 = .ok (.invokevirtual 326, 3) := by decide +kernel
theorem dL_law_2877 : decode cL_law 2877 = .ok (.istore 6, 2) := by decide +kernel
theorem dL_law_2879 : decode cL_law 2879 = .ok (.aload_n 2, 1) := by decide +kernel
theorem dL_law_2880 : decode cL_law 2880 = .ok (.invokevirtual 178, 3) := by decide +kernel
theorem dL_law_2883 : decode cL_law 2883 = .ok (.iload 5, 2) := by decide +kernel
theorem dL_law_2885 : decode cL_law 2885 = .ok (.if_icmp .eq 5, 3) := by decide +kernel
theorem dL_law_2890 : decode cL_law 2890 = .ok (.iload 5, 2) := by decide +kernel
theorem dL_law_2892 : decode cL_law 2892 = .ok (.ifCond .ne 15, 3) := by decide +kernel
theorem dL_law_2895 : decode cL_law 2895 = .ok (.aload_n 3, 1) := by decide +kernel
theorem dL_law_2896 : decode cL_law 2896 = .ok (.iconst 0, 1) := by decide +kernel
theorem dL_law_2897 : decode cL_law 2897 = .ok (.laload, 1) := by decide +kernel
theorem dL_law_2898 : decode cL_law 2898 = .ok (.iload 6, 2) := by decide +kernel
theorem dL_law_2900 : decode cL_law 2900 = .ok (.i2l, 1) := by decide +kernel
theorem dL_law_2901 : decode cL_law 2901 = .ok (.lcmp, 1) := by decide +kernel
theorem dL_law_2902 : decode cL_law 2902 = .ok (.ifCond .eq 5, 3) := by decide +kernel
theorem dL_law_2907 : decode cL_law 2907 = .ok (.goto 516, 3) := by decide +kernel
theorem dL_law_2910 : decode cL_law 2910 = .ok (.aload_n 1, 1) := by decide +kernel
theorem dL_law_2911 : decode cL_law 2911 = .ok (.aload_n 0, 1) := by decide +kernel
theorem dL_law_2912 : decode cL_law 2912 = .ok (.iload 4, 2) := by decide +kernel
theorem dL_law_2914 : decode cL_law 2914 = .ok (.iconst 1, 1) := by decide +kernel
theorem dL_law_2915 : decode cL_law 2915 = .ok (.iadd, 1) := by decide +kernel
theorem dL_law_2916 : decode cL_law 2916 = .ok (.iaload, 1) := by decide +kernel
theorem dL_law_2917 : decode cL_law 2917 = .ok (.aload_n 0, 1) := by decide +kernel
theorem dL_law_2918 : decode cL_law 2918 = .ok (.iload 4, 2) := by decide +kernel
theorem dL_law_2920 : decode cL_law 2920 = .ok (.iconst 2, 1) := by decide +kernel
theorem dL_law_2921 : decode cL_law 2921 = .ok (.iadd, 1) := by decide +kernel
theorem dL_law_2922 : decode cL_law 2922 = .ok (.iaload, 1) := by decide +kernel
theorem dL_law_2923 : decode cL_law 2923 = .ok (.aload_n 3, 1) := by decide +kernel
theorem dL_law_2924 : decode cL_law 2924 = .ok (.invokestatic 327, 3) := by decide +kernel
theorem dL_law_2927 : decode cL_law 2927 = .ok (.istore 5, 2) := by decide +kernel
theorem dL_law_2929 : decode cL_law 2929 = .ok (.aload_n 2, 1) := by decide +kernel
theorem dL_law_2930 : decode cL_law 2930 = .ok (.aload_n 0, 1) := by decide +kernel
theorem dL_law_2931 : decode cL_law 2931 = .ok (.iload 4, 2) := by decide +kernel
theorem dL_law_2933 : decode cL_law 2933 = .ok (.iconst 1, 1) := by decide +kernel
theorem dL_law_2934 : decode cL_law 2934 = .ok (.iadd, 1) := by decide +kernel
theorem dL_law_2935 : decode cL_law 2935 = .ok (.iaload, 1) := by decide +kernel
theorem dL_law_2936 : decode cL_law 2936 = .ok (.aload_n 0, 1) := by decide +kernel
theorem dL_law_2937 : decode cL_law 2937 = .ok (.iload 4, 2) := by decide +kernel
theorem dL_law_2939 : decode cL_law 2939 = .ok (.iconst 2, 1) := by decide +kernel
theorem dL_law_2940 : decode cL_law 2940 = .ok (.iadd, 1) := by decide +kernel
theorem dL_law_2941 : decode cL_law 2941 = .ok (.iaload, 1) := by decide +kernel
theorem dL_law_2942 : decode cL_law 2942 = .ok (.invokevirtual 329, 3) := by decide +kernel
theorem dL_law_2945 : decode cL_law 2945 = .ok (.istore 6, 2) := by decide +kernel
theorem dL_law_2947 : decode cL_law 2947 = .ok (.aload_n 2, 1) := by decide +kernel
theorem dL_law_2948 : decode cL_law 2948 = .ok (.invokevirtual 178, 3) := by decide +kernel
theorem dL_law_2951 : decode cL_law 2951 = .ok (.iload 5, 2) := by decide +kernel
theorem dL_law_2953 : decode cL_law 2953 = .ok (.if_icmp .eq 5, 3) := by decide +kernel
theorem dL_law_2958 : decode cL_law 2958 = .ok (.iload 5, 2) := by decide +kernel
theorem dL_law_2960 : decode cL_law 2960 = .ok (.ifCond .ne 15, 3) := by decide +kernel
theorem dL_law_2963 : decode cL_law 2963 = .ok (.aload_n 3, 1) := by decide +kernel
theorem dL_law_2964 : decode cL_law 2964 = .ok (.iconst 0, 1) := by decide +kernel
theorem dL_law_2965 : decode cL_law 2965 = .ok (.laload, 1) := by decide +kernel
theorem dL_law_2966 : decode cL_law 2966 = .ok (.iload 6, 2) := by decide +kernel
theorem dL_law_2968 : decode cL_law 2968 = .ok (.i2l, 1) := by decide +kernel
theorem dL_law_2969 : decode cL_law 2969 = .ok (.lcmp, 1) := by decide +kernel
theorem dL_law_2970 : decode cL_law 2970 = .ok (.ifCond .eq 5, 3) := by decide +kernel
theorem dL_law_2975 : decode cL_law 2975 = .ok (.goto 448, 3) := by decide +kernel
theorem dL_law_2978 : decode cL_law 2978 = .ok (.aload_n 1, 1) := by decide +kernel
theorem dL_law_2979 : decode cL_law 2979 = .ok (.invokevirtual 330, 3) := by decide +kernel
theorem dL_law_2982 : decode cL_law 2982 = .ok (.aload_n 2, 1) := by decide +kernel
theorem dL_law_2983 : decode cL_law 2983 = .ok (.invokevirtual 333, 3) := by decide +kernel
theorem dL_law_2986 : decode cL_law 2986 = .ok (.if_icmp .eq 437, 3) := by decide +kernel
theorem dL_law_2991 : decode cL_law 2991 = .ok (.aload_n 1, 1) := by decide +kernel
theorem dL_law_2992 : decode cL_law 2992 = .ok (.invokevirtual 334, 3) := by decide +kernel
theorem dL_law_2995 : decode cL_law 2995 = .ok (.aload_n 2, 1) := by decide +kernel
theorem dL_law_2996 : decode cL_law 2996 = .ok (.invokevirtual 337, 3) := by decide +kernel
theorem dL_law_2999 : decode cL_law 2999 = .ok (.if_icmp .eq 424, 3) := by decide +kernel
theorem dL_law_3004 : decode cL_law 3004 = .ok (.aload_n 1, 1) := by decide +kernel
theorem dL_law_3005 : decode cL_law 3005 = .ok (.aload_n 0, 1) := by decide +kernel
theorem dL_law_3006 : decode cL_law 3006 = .ok (.iload 4, 2) := by decide +kernel
theorem dL_law_3008 : decode cL_law 3008 = .ok (.iconst 1, 1) := by decide +kernel
theorem dL_law_3009 : decode cL_law 3009 = .ok (.iadd, 1) := by decide +kernel
theorem dL_law_3010 : decode cL_law 3010 = .ok (.iaload, 1) := by decide +kernel
theorem dL_law_3011 : decode cL_law 3011 = .ok (.aload_n 3, 1) := by decide +kernel
theorem dL_law_3012 : decode cL_law 3012 = .ok (.invokestatic 338, 3) := by decide +kernel
theorem dL_law_3015 : decode cL_law 3015 = .ok (.istore 5, 2) := by decide +kernel
theorem dL_law_3017 : decode cL_law 3017 = .ok (.aload_n 2, 1) := by decide +kernel
theorem dL_law_3018 : decode cL_law 3018 = .ok (.aload_n 0, 1) := by decide +kernel
theorem dL_law_3019 : decode cL_law 3019 = .ok (.iload 4, 2) := by decide +kernel
theorem dL_law_3021 : decode cL_law 3021 = .ok (.iconst 1, 1) := by decide +kernel
theorem dL_law_3022 : decode cL_law 3022 = .ok (.iadd, 1) := by decide +kernel
theorem dL_law_3023 : decode cL_law 3023 = .ok (.iaload, 1) := by decide +kernel
theorem dL_law_3024 : decode cL_law 3024 = .ok (.invokevirtual 340, 3) := by decide +kernel
theorem dL_law_3027 : decode cL_law 3027 = .ok (.istore 6, 2) := by decide +kernel
theorem dL_law_3029 : decode cL_law 3029 = .ok (.aload_n 2, 1) := by decide +kernel
theorem dL_law_3030 : decode cL_law 3030 = .ok (.invokevirtual 178, 3) := by decide +kernel
theorem dL_law_3033 : decode cL_law 3033 = .ok (.iload 5, 2) := by decide +kernel
theorem dL_law_3035 : decode cL_law 3035 = .ok (.if_icmp .eq 5, 3) := by decide +kernel
theorem dL_law_3040 : decode cL_law 3040 = .ok (.iload 5, 2) := by decide +kernel
theorem dL_law_3042 : decode cL_law 3042 = .ok (.ifCond .ne 15, 3) := by decide +kernel
theorem dL_law_3045 : decode cL_law 3045 = .ok (.aload_n 3, 1) := by decide +kernel
theorem dL_law_3046 : decode cL_law 3046 = .ok (.iconst 0, 1) := by decide +kernel
theorem dL_law_3047 : decode cL_law 3047 = .ok (.laload, 1) := by decide +kernel
theorem dL_law_3048 : decode cL_law 3048 = .ok (.iload 6, 2) := by decide +kernel
theorem dL_law_3050 : decode cL_law 3050 = .ok (.i2l, 1) := by decide +kernel
theorem dL_law_3051 : decode cL_law 3051 = .ok (.lcmp, 1) := by decide +kernel
theorem dL_law_3052 : decode cL_law 3052 = .ok (.ifCond .eq 5, 3) := by decide +kernel
theorem dL_law_3057 : decode cL_law 3057 = .ok (.goto 366, 3) := by decide +kernel
theorem dL_law_3060 : decode cL_law 3060 = .ok (.aload_n 1, 1) := by decide +kernel
theorem dL_law_3061 : decode cL_law 3061 = .ok (.aload_n 0, 1) := by decide +kernel
theorem dL_law_3062 : decode cL_law 3062 = .ok (.iload 4, 2) := by decide +kernel
theorem dL_law_3064 : decode cL_law 3064 = .ok (.iconst 1, 1) := by decide +kernel
theorem dL_law_3065 : decode cL_law 3065 = .ok (.iadd, 1) := by decide +kernel
theorem dL_law_3066 : decode cL_law 3066 = .ok (.iaload, 1) := by decide +kernel
theorem dL_law_3067 : decode cL_law 3067 = .ok (.aload_n 3, 1) := by decide +kernel
theorem dL_law_3068 : decode cL_law 3068 = .ok (.invokestatic 341, 3) := by decide +kernel
theorem dL_law_3071 : decode cL_law 3071 = .ok (.istore 5, 2) := by decide +kernel
theorem dL_law_3073 : decode cL_law 3073 = .ok (.aload_n 2, 1) := by decide +kernel
theorem dL_law_3074 : decode cL_law 3074 = .ok (.aload_n 0, 1) := by decide +kernel
theorem dL_law_3075 : decode cL_law 3075 = .ok (.iload 4, 2) := by decide +kernel
theorem dL_law_3077 : decode cL_law 3077 = .ok (.iconst 1, 1) := by decide +kernel
theorem dL_law_3078 : decode cL_law 3078 = .ok (.iadd, 1) := by decide +kernel
theorem dL_law_3079 : decode cL_law 3079 = .ok (.iaload, 1) := by decide +kernel
theorem dL_law_3080 : decode cL_law 3080 = .ok (.invokevirtual 343, 3) := by decide +kernel
theorem dL_law_3083 : decode cL_law 3083 = .ok (.istore 6, 2) := by decide +kernel
theorem dL_law_3085 : decode cL_law 3085 = .ok (.aload_n 2, 1) := by decide +kernel
theorem dL_law_3086 : decode cL_law 3086 = .ok (.invokevirtual 178, 3) := by decide +kernel
theorem dL_law_3089 : decode cL_law 3089 = .ok (.iload 5, 2) := by decide +kernel
theorem dL_law_3091 : decode cL_law 3091 = .ok (.if_icmp .eq 5, 3) := by decide +kernel
theorem dL_law_3096 : decode cL_law 3096 = .ok (.iload 5, 2) := by decide +kernel
theorem dL_law_3098 : decode cL_law 3098 = .ok (.ifCond .ne 15, 3) := by decide +kernel
theorem dL_law_3101 : decode cL_law 3101 = .ok (.aload_n 3, 1) := by decide +kernel
theorem dL_law_3102 : decode cL_law 3102 = .ok (.iconst 0, 1) := by decide +kernel
theorem dL_law_3103 : decode cL_law 3103 = .ok (.laload, 1) := by decide +kernel
theorem dL_law_3104 : decode cL_law 3104 = .ok (.iload 6, 2) := by decide +kernel
theorem dL_law_3106 : decode cL_law 3106 = .ok (.i2l, 1) := by decide +kernel
theorem dL_law_3107 : decode cL_law 3107 = .ok (.lcmp, 1) := by decide +kernel
theorem dL_law_3108 : decode cL_law 3108 = .ok (.ifCond .eq 5, 3) := by decide +kernel
theorem dL_law_3113 : decode cL_law 3113 = .ok (.goto 310, 3) := by decide +kernel
theorem dL_law_3116 : decode cL_law 3116 = .ok (.aload_n 1, 1) := by decide +kernel
theorem dL_law_3117 : decode cL_law 3117 = .ok (.aload_n 0, 1) := by decide +kernel
theorem dL_law_3118 : decode cL_law 3118 = .ok (.iload 4, 2) := by decide +kernel
theorem dL_law_3120 : decode cL_law 3120 = .ok (.iconst 1, 1) := by decide +kernel
theorem dL_law_3121 : decode cL_law 3121 = .ok (.iadd, 1) := by decide +kernel
theorem dL_law_3122 : decode cL_law 3122 = .ok (.iaload, 1) := by decide +kernel
theorem dL_law_3123 : decode cL_law 3123 = .ok (.aload_n 3, 1) := by decide +kernel
theorem dL_law_3124 : decode cL_law 3124 = .ok (.invokestatic 344, 3) := by decide +kernel
theorem dL_law_3127 : decode cL_law 3127 = .ok (.istore 5, 2) := by decide +kernel
theorem dL_law_3129 : decode cL_law 3129 = .ok (.aload_n 2, 1) := by decide +kernel
theorem dL_law_3130 : decode cL_law 3130 = .ok (.aload_n 0, 1) := by decide +kernel
theorem dL_law_3131 : decode cL_law 3131 = .ok (.iload 4, 2) := by decide +kernel
theorem dL_law_3133 : decode cL_law 3133 = .ok (.iconst 1, 1) := by decide +kernel
theorem dL_law_3134 : decode cL_law 3134 = .ok (.iadd, 1) := by decide +kernel
theorem dL_law_3135 : decode cL_law 3135 = .ok (.iaload, 1) := by decide +kernel
theorem dL_law_3136 : decode cL_law 3136 = .ok (.invokevirtual 346, 3) := by decide +kernel
theorem dL_law_3139 : decode cL_law 3139 = .ok (.istore 6, 2) := by decide +kernel
theorem dL_law_3141 : decode cL_law 3141 = .ok (.aload_n 2, 1) := by decide +kernel
theorem dL_law_3142 : decode cL_law 3142 = .ok (.invokevirtual 178, 3) := by decide +kernel
theorem dL_law_3145 : decode cL_law 3145 = .ok (.iload 5, 2) := by decide +kernel
theorem dL_law_3147 : decode cL_law 3147 = .ok (.if_icmp .eq 5, 3) := by decide +kernel
theorem dL_law_3152 : decode cL_law 3152 = .ok (.iload 5, 2) := by decide +kernel
theorem dL_law_3154 : decode cL_law 3154 = .ok (.ifCond .ne 15, 3) := by decide +kernel
theorem dL_law_3157 : decode cL_law 3157 = .ok (.aload_n 3, 1) := by decide +kernel
theorem dL_law_3158 : decode cL_law 3158 = .ok (.iconst 0, 1) := by decide +kernel
theorem dL_law_3159 : decode cL_law 3159 = .ok (.laload, 1) := by decide +kernel
theorem dL_law_3160 : decode cL_law 3160 = .ok (.iload 6, 2) := by decide +kernel
theorem dL_law_3162 : decode cL_law 3162 = .ok (.i2l, 1) := by decide +kernel
theorem dL_law_3163 : decode cL_law 3163 = .ok (.lcmp, 1) := by decide +kernel
theorem dL_law_3164 : decode cL_law 3164 = .ok (.ifCond .eq 5, 3) := by decide +kernel
theorem dL_law_3169 : decode cL_law 3169 = .ok (.goto 254, 3) := by decide +kernel
theorem dL_law_3172 : decode cL_law 3172 = .ok (.aload_n 1, 1) := by decide +kernel
theorem dL_law_3173 : decode cL_law 3173 = .ok (.aload_n 3, 1) := by decide +kernel
theorem dL_law_3174 : decode cL_law 3174 = .ok (.invokestatic 347, 3) := by decide +kernel
theorem dL_law_3177 : decode cL_law 3177 = .ok (.istore 5, 2) := by decide +kernel
theorem dL_law_3179 : decode cL_law 3179 = .ok (.aload_n 2, 1) := by decide +kernel
theorem dL_law_3180 : decode cL_law 3180 = .ok (.invokevirtual 349, 3) := by decide +kernel
theorem dL_law_3183 : decode cL_law 3183 = .ok (.istore 6, 2) := by decide +kernel
theorem dL_law_3185 : decode cL_law 3185 = .ok (.aload_n 2, 1) := by decide +kernel
theorem dL_law_3186 : decode cL_law 3186 = .ok (.invokevirtual 178, 3) := by decide +kernel
theorem dL_law_3189 : decode cL_law 3189 = .ok (.iload 5, 2) := by decide +kernel
theorem dL_law_3191 : decode cL_law 3191 = .ok (.if_icmp .eq 5, 3) := by decide +kernel
theorem dL_law_3196 : decode cL_law 3196 = .ok (.iload 5, 2) := by decide +kernel
theorem dL_law_3198 : decode cL_law 3198 = .ok (.ifCond .ne 15, 3) := by decide +kernel
theorem dL_law_3201 : decode cL_law 3201 = .ok (.aload_n 3, 1) := by decide +kernel
theorem dL_law_3202 : decode cL_law 3202 = .ok (.iconst 0, 1) := by decide +kernel
theorem dL_law_3203 : decode cL_law 3203 = .ok (.laload, 1) := by decide +kernel
theorem dL_law_3204 : decode cL_law 3204 = .ok (.iload 6, 2) := by decide +kernel
theorem dL_law_3206 : decode cL_law 3206 = .ok (.i2l, 1) := by decide +kernel
theorem dL_law_3207 : decode cL_law 3207 = .ok (.lcmp, 1) := by decide +kernel
theorem dL_law_3208 : decode cL_law 3208 = .ok (.ifCond .eq 5, 3) := by decide +kernel
theorem dL_law_3213 : decode cL_law 3213 = .ok (.goto 210, 3) := by decide +kernel
theorem dL_law_3216 : decode cL_law 3216 = .ok (.aload_n 1, 1) := by decide +kernel
theorem dL_law_3217 : decode cL_law 3217 = .ok (.aload_n 0, 1) := by decide +kernel
theorem dL_law_3218 : decode cL_law 3218 = .ok (.iload 4, 2) := by decide +kernel
theorem dL_law_3220 : decode cL_law 3220 = .ok (.iconst 1, 1) := by decide +kernel
theorem dL_law_3221 : decode cL_law 3221 = .ok (.iadd, 1) := by decide +kernel
theorem dL_law_3222 : decode cL_law 3222 = .ok (.iaload, 1) := by decide +kernel
theorem dL_law_3223 : decode cL_law 3223 = .ok (.aload_n 3, 1) := by decide +kernel
theorem dL_law_3224 : decode cL_law 3224 = .ok (.invokestatic 350, 3) := by decide +kernel
theorem dL_law_3227 : decode cL_law 3227 = .ok (.istore 5, 2) := by decide +kernel
theorem dL_law_3229 : decode cL_law 3229 = .ok (.aload_n 2, 1) := by decide +kernel
theorem dL_law_3230 : decode cL_law 3230 = .ok (.aload_n 0, 1) := by decide +kernel
theorem dL_law_3231 : decode cL_law 3231 = .ok (.iload 4, 2) := by decide +kernel
theorem dL_law_3233 : decode cL_law 3233 = .ok (.iconst 1, 1) := by decide +kernel
theorem dL_law_3234 : decode cL_law 3234 = .ok (.iadd, 1) := by decide +kernel
theorem dL_law_3235 : decode cL_law 3235 = .ok (.iaload, 1) := by decide +kernel
theorem dL_law_3236 : decode cL_law 3236 = .ok (.invokevirtual 352, 3) := by decide +kernel
theorem dL_law_3239 : decode cL_law 3239 = .ok (.istore 6, 2) := by decide +kernel
theorem dL_law_3241 : decode cL_law 3241 = .ok (.aload_n 2, 1) := by decide +kernel
theorem dL_law_3242 : decode cL_law 3242 = .ok (.invokevirtual 178, 3) := by decide +kernel
theorem dL_law_3245 : decode cL_law 3245 = .ok (.iload 5, 2) := by decide +kernel
theorem dL_law_3247 : decode cL_law 3247 = .ok (.if_icmp .eq 5, 3) := by decide +kernel
theorem dL_law_3252 : decode cL_law 3252 = .ok (.iload 5, 2) := by decide +kernel
theorem dL_law_3254 : decode cL_law 3254 = .ok (.ifCond .ne 15, 3) := by decide +kernel
theorem dL_law_3257 : decode cL_law 3257 = .ok (.aload_n 3, 1) := by decide +kernel
theorem dL_law_3258 : decode cL_law 3258 = .ok (.iconst 0, 1) := by decide +kernel
theorem dL_law_3259 : decode cL_law 3259 = .ok (.laload, 1) := by decide +kernel
theorem dL_law_3260 : decode cL_law 3260 = .ok (.iload 6, 2) := by decide +kernel
theorem dL_law_3262 : decode cL_law 3262 = .ok (.i2l, 1) := by decide +kernel
theorem dL_law_3263 : decode cL_law 3263 = .ok (.lcmp, 1) := by decide +kernel
theorem dL_law_3264 : decode cL_law 3264 = .ok (.ifCond .eq 5, 3) := by decide +kernel
theorem dL_law_3269 : decode cL_law 3269 = .ok (.goto 154, 3) := by decide +kernel
theorem dL_law_3272 : decode cL_law 3272 = .ok (.aload_n 1, 1) := by decide +kernel
theorem dL_law_3273 : decode cL_law 3273 = .ok (.aload_n 3, 1) := by decide +kernel
theorem dL_law_3274 : decode cL_law 3274 = .ok (.invokestatic 353, 3) := by decide +kernel
theorem dL_law_3277 : decode cL_law 3277 = .ok (.istore 5, 2) := by decide +kernel
theorem dL_law_3279 : decode cL_law 3279 = .ok (.aload_n 2, 1) := by decide +kernel
theorem dL_law_3280 : decode cL_law 3280 = .ok (.invokevirtual 355, 3) := by decide +kernel
theorem dL_law_3283 : decode cL_law 3283 = .ok (.istore 6, 2) := by decide +kernel
theorem dL_law_3285 : decode cL_law 3285 = .ok (.aload_n 2, 1) := by decide +kernel
theorem dL_law_3286 : decode cL_law 3286 = .ok (.invokevirtual 178, 3) := by decide +kernel
theorem dL_law_3289 : decode cL_law 3289 = .ok (.iload 5, 2) := by decide +kernel
theorem dL_law_3291 : decode cL_law 3291 = .ok (.if_icmp .eq 5, 3) := by decide +kernel
theorem dL_law_3296 : decode cL_law 3296 = .ok (.iload 5, 2) := by decide +kernel
theorem dL_law_3298 : decode cL_law 3298 = .ok (.ifCond .ne 15, 3) := by decide +kernel
theorem dL_law_3301 : decode cL_law 3301 = .ok (.aload_n 3, 1) := by decide +kernel
theorem dL_law_3302 : decode cL_law 3302 = .ok (.iconst 0, 1) := by decide +kernel
theorem dL_law_3303 : decode cL_law 3303 = .ok (.laload, 1) := by decide +kernel
theorem dL_law_3304 : decode cL_law 3304 = .ok (.iload 6, 2) := by decide +kernel
theorem dL_law_3306 : decode cL_law 3306 = .ok (.i2l, 1) := by decide +kernel
theorem dL_law_3307 : decode cL_law 3307 = .ok (.lcmp, 1) := by decide +kernel
theorem dL_law_3308 : decode cL_law 3308 = .ok (.ifCond .eq 5, 3) := by decide +kernel
theorem dL_law_3313 : decode cL_law 3313 = .ok (.goto 110, 3) := by decide +kernel
theorem dL_law_3316 : decode cL_law 3316 = .ok (.aload_n 1, 1) := by decide +kernel
theorem dL_law_3317 : decode cL_law 3317 = .ok (.invokevirtual 356, 3) := by decide +kernel
theorem dL_law_3320 : decode cL_law 3320 = .ok (.aload_n 2, 1) := by decide +kernel
theorem dL_law_3321 : decode cL_law 3321 = .ok (.invokevirtual 359, 3) := by decide +kernel
theorem dL_law_3324 : decode cL_law 3324 = .ok (.if_icmp .eq 99, 3) := by decide +kernel
theorem dL_law_3329 : decode cL_law 3329 = .ok (.aload_n 1, 1) := by decide +kernel
theorem dL_law_3330 : decode cL_law 3330 = .ok (.invokevirtual 360, 3) := by decide +kernel
theorem dL_law_3333 : decode cL_law 3333 = .ok (.aload_n 2, 1) := by decide +kernel
theorem dL_law_3334 : decode cL_law 3334 = .ok (.invokevirtual 363, 3) := by decide +kernel
theorem dL_law_3337 : decode cL_law 3337 = .ok (.if_icmp .eq 86, 3) := by decide +kernel
theorem dL_law_3342 : decode cL_law 3342 = .ok (.aload_n 1, 1) := by decide +kernel
theorem dL_law_3343 : decode cL_law 3343 = .ok (.aload_n 0, 1) := by decide +kernel
theorem dL_law_3344 : decode cL_law 3344 = .ok (.iload 4, 2) := by decide +kernel
theorem dL_law_3346 : decode cL_law 3346 = .ok (.iconst 1, 1) := by decide +kernel
theorem dL_law_3347 : decode cL_law 3347 = .ok (.iadd, 1) := by decide +kernel
theorem dL_law_3348 : decode cL_law 3348 = .ok (.iaload, 1) := by decide +kernel
theorem dL_law_3349 : decode cL_law 3349 = .ok (.aload_n 3, 1) := by decide +kernel
theorem dL_law_3350 : decode cL_law 3350 = .ok (.invokestatic 364, 3) := by decide +kernel
theorem dL_law_3353 : decode cL_law 3353 = .ok (.istore 5, 2) := by decide +kernel
theorem dL_law_3355 : decode cL_law 3355 = .ok (.aload_n 2, 1) := by decide +kernel
theorem dL_law_3356 : decode cL_law 3356 = .ok (.aload_n 0, 1) := by decide +kernel
theorem dL_law_3357 : decode cL_law 3357 = .ok (.iload 4, 2) := by decide +kernel
theorem dL_law_3359 : decode cL_law 3359 = .ok (.iconst 1, 1) := by decide +kernel
theorem dL_law_3360 : decode cL_law 3360 = .ok (.iadd, 1) := by decide +kernel
theorem dL_law_3361 : decode cL_law 3361 = .ok (.iaload, 1) := by decide +kernel
theorem dL_law_3362 : decode cL_law 3362 = .ok (.invokevirtual 366, 3) := by decide +kernel
theorem dL_law_3365 : decode cL_law 3365 = .ok (.istore 6, 2) := by decide +kernel
theorem dL_law_3367 : decode cL_law 3367 = .ok (.aload_n 2, 1) := by decide +kernel
theorem dL_law_3368 : decode cL_law 3368 = .ok (.invokevirtual 178, 3) := by decide +kernel
theorem dL_law_3371 : decode cL_law 3371 = .ok (.iload 5, 2) := by decide +kernel
theorem dL_law_3373 : decode cL_law 3373 = .ok (.if_icmp .eq 5, 3) := by decide +kernel
theorem dL_law_3378 : decode cL_law 3378 = .ok (.iload 5, 2) := by decide +kernel
theorem dL_law_3380 : decode cL_law 3380 = .ok (.ifCond .ne 15, 3) := by decide +kernel
theorem dL_law_3383 : decode cL_law 3383 = .ok (.aload_n 3, 1) := by decide +kernel
theorem dL_law_3384 : decode cL_law 3384 = .ok (.iconst 0, 1) := by decide +kernel
theorem dL_law_3385 : decode cL_law 3385 = .ok (.laload, 1) := by decide +kernel
theorem dL_law_3386 : decode cL_law 3386 = .ok (.iload 6, 2) := by decide +kernel
theorem dL_law_3388 : decode cL_law 3388 = .ok (.i2l, 1) := by decide +kernel
theorem dL_law_3389 : decode cL_law 3389 = .ok (.lcmp, 1) := by decide +kernel
theorem dL_law_3390 : decode cL_law 3390 = .ok (.ifCond .eq 5, 3) := by decide +kernel
theorem dL_law_3395 : decode cL_law 3395 = .ok (.goto 28, 3) := by decide +kernel
theorem dL_law_3398 : decode cL_law 3398 = .ok (.aload_n 1, 1) := by decide +kernel
theorem dL_law_3399 : decode cL_law 3399 = .ok (.aload_n 0, 1) := by decide +kernel
theorem dL_law_3400 : decode cL_law 3400 = .ok (.iload 4, 2) := by decide +kernel
theorem dL_law_3402 : decode cL_law 3402 = .ok (.iconst 1, 1) := by decide +kernel
theorem dL_law_3403 : decode cL_law 3403 = .ok (.iadd, 1) := by decide +kernel
theorem dL_law_3404 : decode cL_law 3404 = .ok (.iaload, 1) := by decide +kernel
theorem dL_law_3405 : decode cL_law 3405 = .ok (.invokevirtual 367, 3) := by decide +kernel
theorem dL_law_3408 : decode cL_law 3408 = .ok (.aload_n 2, 1) := by decide +kernel
theorem dL_law_3409 : decode cL_law 3409 = .ok (.aload_n 0, 1) := by decide +kernel
theorem dL_law_3410 : decode cL_law 3410 = .ok (.iload 4, 2) := by decide +kernel
theorem dL_law_3412 : decode cL_law 3412 = .ok (.iconst 1, 1) := by decide +kernel
theorem dL_law_3413 : decode cL_law 3413 = .ok (.iadd, 1) := by decide +kernel
theorem dL_law_3414 : decode cL_law 3414 = .ok (.iaload, 1) := by decide +kernel
theorem dL_law_3415 : decode cL_law 3415 = .ok (.invokevirtual 370, 3) := by decide +kernel
theorem dL_law_3418 : decode cL_law 3418 = .ok (.if_icmp .eq 5, 3) := by decide +kernel
set_option maxHeartbeats 4000000 in
set_option maxRecDepth 100000 in
theorem lc_46 {l : Launch} {g : GL} {p : Program} {e : Jvm.Env} {s : State} {m : MethodId} {below : List Frame} {meth : Method} {c : Code} {b Lx : Nat} {xs : Nat → Int32} {N : Nat} {Inv : SI → (Nat → Nat → Nat) → Prop} {σ : SI} {R : Nat → Nat → Nat} {L : Nat → Nat → Int64} {x4 : Int32} {cells slots : Nat} (C : Cx l g p s m meth c cL_law 7 RL) (hX : va_X b Lx xs s s.heap) (hbl : b < s.heap.size) (hbA : ¬ gA g b) (hI : Inv σ R) (hIS : InvOk Inv) (hAg : Ag_46 N Inv) (h1 : vp_in (x4 + 1) Lx) (h2 : vp_in (x4 + 2) Lx) (hcs : cells + 4 ≤ 601024 ∧ slots + 24 ≤ 7293034) (kk : ∀ (σ' : SI) (R' : Nat → Nat → Nat) (L' : Nat → Nat → Int64) (H : Heap) (locs : List Loc) (ls : Array Slot), Inv σ' R' → S2 g s σ' R' L' H locs → lv_has ls 7 [(0, .ref b), (1, .ref (gb g + 1)), (2, .ref (gb g + 178)), (3, .ref (gb g + 194)), (4, .int x4)] → W p l e room_1 s m #[Value.ref b] below meth c H locs (cells + 4) (slots + 24) (lw_Z below #[Value.ref b] s) (F0 m 3423 ls [])) : ∀ (H : Heap) (locs : List Loc) (ls : Array Slot), S2 g s σ R L H locs → lv_has ls 7 [(0, .ref b), (1, .ref (gb g + 1)), (2, .ref (gb g + 178)), (3, .ref (gb g + 194)), (4, .int x4)] → W p l e room_1 s m #[Value.ref b] below meth c H locs (cells) (slots) (lw_Z below #[Value.ref b] s) (F0 m 2762 ls []) := by
  intro H locs ls S hl
  obtain ⟨hc1, hc2⟩ := hcs
  have hx := C.1
  have hb := C.2.1
  have hSh := hIS σ R hI
  obtain ⟨res, σ1, b2, σ2, hm, hmod, hI2, hret, hthr⟩ := hAg σ R (xs (x4 + 1).toNatClampNeg) (xs (x4 + 2).toNatClampNeg) hI
  cases res with
  | inl v =>
    obtain ⟨ht, rfl⟩ := hret v rfl
    refine lv_aload_n hx hb dL_law_2762 rfl (lv_at hl 1 rfl) ?_
    refine lv_aload_n hx hb dL_law_2763 rfl (lv_at hl 0 rfl) ?_
    refine lv_iload hx hb dL_law_2764 (lv_at hl 4 rfl) ?_
    refine lv_iconst (v := (1 : Int32)) hx hb dL_law_2766 (by decide) ?_
    refine lv_iadd hx hb dL_law_2767 ?_
    refine va_sld hx hb hX hbl hbA S.2 h1 dL_law_2768 ?_
    refine lv_aload_n hx hb dL_law_2769 rfl (lv_at hl 0 rfl) ?_
    refine lv_iload hx hb dL_law_2770 (lv_at hl 4 rfl) ?_
    refine lv_iconst (v := (2 : Int32)) hx hb dL_law_2772 (by decide) ?_
    refine lv_iadd hx hb dL_law_2773 ?_
    refine va_sld hx hb hX hbl hbA S.2 h2 dL_law_2774 ?_
    refine lv_aload_n hx hb dL_law_2775 rfl (lv_at hl 3 rfl) ?_
    refine v_callW C S (h_closureLength_ret (L := L) hm hSh ok_1 ok_194) ⟨cd_L_closureLength, ni_RL, ml_RL_321, st_L_closureLength⟩ ⟨by decide, by decide⟩ rfl ⟨by decide, by decide⟩ hl.1 rfl (Nat.le_of_ble_eq_true rfl) ⟨by show _ ≤ 601024; omega, by show _ ≤ 7293034; omega⟩ dL_law_2776 (fun w σ' H locs hp S => ?_)
    obtain ⟨rfl, rfl⟩ := hp
    have S : S2 g s σ1 R (fun a j => if a = 194 ∧ j = 0 then v.toInt64 else L a j) H locs := S
    obtain ⟨L1, hL1, hLv⟩ : ∃ L1 : Nat → Nat → Int64, (fun a j => if a = 194 ∧ j = 0 then v.toInt64 else L a j) = L1 ∧ L1 194 0 = v.toInt64 := ⟨_, rfl, if_pos ⟨rfl, rfl⟩⟩
    rw [hL1] at S
    refine lv_istore (lv' := [(5, .int 0), (0, .ref b), (1, .ref (gb g + 1)), (2, .ref (gb g + 178)), (3, .ref (gb g + 194)), (4, .int x4)]) hx hb dL_law_2779 hl (by decide) rfl (fun ls hl => ?_)
    refine lv_aload_n hx hb dL_law_2781 rfl (lv_at hl 3 rfl) ?_
    refine lv_aload_n hx hb dL_law_2782 rfl (lv_at hl 1 rfl) ?_
    refine lv_iload hx hb dL_law_2783 (lv_at hl 5 rfl) ?_
    refine lv_iconst (v := (1 : Int32)) hx hb dL_law_2785 (by decide) ?_
    refine lv_iadd hx hb dL_law_2786 ?_
    refine va_sld hx hb hX hbl hbA S.2 h1 dL_law_2787 ?_
    refine lv_aload_n hx hb dL_law_2788 rfl (lv_at hl 1 rfl) ?_
    refine lv_iload hx hb dL_law_2789 (lv_at hl 5 rfl) ?_
    refine lv_iconst (v := (2 : Int32)) hx hb dL_law_2791 (by decide) ?_
    refine lv_iadd hx hb dL_law_2792 ?_
    refine va_sld hx hb hX hbl hbA S.2 h2 dL_law_2793 ?_
    refine x_callVI C S KX12 ok_178 (ok_X12_closureLength (L := L1) hmod hSh ok_178) ⟨cd_X12_closureLength, ni_RX12, ml_RL_323, in_X12_closureLength, sl_X12_closureLength⟩ ⟨by decide, by decide⟩ rfl ⟨by decide, by decide⟩ hl.1 rfl (Nat.le_of_ble_eq_true rfl) ⟨by show _ ≤ 601024; omega, by show _ ≤ 7293034; omega⟩ dL_law_2794 (fun H locs S => ?_)
    refine lv_istore (lv' := [(6, .int v), (5, .int 0), (0, .ref b), (1, .ref (gb g + 1)), (2, .ref (gb g + 178)), (3, .ref (gb g + 194)), (4, .int x4)]) hx hb dL_law_2797 hl (by decide) rfl (fun ls hl => ?_)
    refine lv_aload_n hx hb dL_law_2799 rfl (lv_at hl 4 rfl) ?_
    refine x_callVI C S KX12 ok_178 (ok_X12_thrown (L := L1) (thr_eq N R σ2 178) hSh ok_178) ⟨cd_X12_thrown, ni_RX12, ml_RL_178, in_X12_thrown, sl_X12_thrown⟩ ⟨by decide, by decide⟩ rfl ⟨by decide, by decide⟩ hl.1 rfl (Nat.le_of_ble_eq_true rfl) ⟨by show _ ≤ 601024; omega, by show _ ≤ 7293034; omega⟩ dL_law_2800 (fun H locs S => ?_)
    refine lv_iload hx hb dL_law_2803 (lv_at hl 1 rfl) ?_
    refine lv_icmp_eq (tgt := 2810) hx hb dL_law_2805 (by decide) (fun c1 => ?_) (fun c1 => absurd ht c1)
    refine lv_iload hx hb dL_law_2810 (lv_at hl 1 rfl) ?_
    refine lv_if_ne (tgt := 2827) hx hb dL_law_2812 (by decide) (fun c2 => absurd rfl c2) (fun c2 => ?_)
    refine lv_aload_n hx hb dL_law_2815 rfl (lv_at hl 5 rfl) ?_
    refine lv_iconst (v := (0 : Int32)) hx hb dL_law_2816 (by decide) ?_
    refine x_lald C S ok_194 dL_law_2817 ?_
    refine lv_iload hx hb dL_law_2818 (lv_at hl 0 rfl) ?_
    refine lv_i2l hx hb dL_law_2820 rfl ?_
    refine W.lcmp hx hb dL_law_2821 ?_
    refine lv_if_eq (tgt := 2827) hx hb dL_law_2822 (by decide) (fun c4 => ?_) (fun c4 => absurd (by show lg_cmp (L1 194 0) _ = 0; rw [hLv]; exact lgc_self _) c4)
    refine lv_goto (tgt := 3423) hx hb dL_law_2827 (by decide) ?_
    exact W.widen (k := cells + 4) (n := slots + 24) (by omega) (by omega) (kk σ2 R L1 H locs ls hI2 S (lv_sub hl [2, 3, 4, 5, 6] rfl))
  | inr q =>
    obtain ⟨rfl, ht⟩ := hthr q rfl
    refine lv_aload_n hx hb dL_law_2762 rfl (lv_at hl 1 rfl) ?_
    refine lv_aload_n hx hb dL_law_2763 rfl (lv_at hl 0 rfl) ?_
    refine lv_iload hx hb dL_law_2764 (lv_at hl 4 rfl) ?_
    refine lv_iconst (v := (1 : Int32)) hx hb dL_law_2766 (by decide) ?_
    refine lv_iadd hx hb dL_law_2767 ?_
    refine va_sld hx hb hX hbl hbA S.2 h1 dL_law_2768 ?_
    refine lv_aload_n hx hb dL_law_2769 rfl (lv_at hl 0 rfl) ?_
    refine lv_iload hx hb dL_law_2770 (lv_at hl 4 rfl) ?_
    refine lv_iconst (v := (2 : Int32)) hx hb dL_law_2772 (by decide) ?_
    refine lv_iadd hx hb dL_law_2773 ?_
    refine va_sld hx hb hX hbl hbA S.2 h2 dL_law_2774 ?_
    refine lv_aload_n hx hb dL_law_2775 rfl (lv_at hl 3 rfl) ?_
    refine v_callW C S (h_closureLength_x0 (L := L) hm hSh ok_1 ok_194) ⟨cd_L_closureLength, ni_RL, ml_RL_321, st_L_closureLength⟩ ⟨by decide, by decide⟩ rfl ⟨by decide, by decide⟩ hl.1 rfl (Nat.le_of_ble_eq_true rfl) ⟨by show _ ≤ 601024; omega, by show _ ≤ 7293034; omega⟩ dL_law_2776 (fun w σ' H locs hp S => ?_)
    obtain ⟨rfl, rfl⟩ := hp
    have S : S2 g s σ1 R L H locs := S
    refine lv_istore (lv' := [(5, .int 1), (0, .ref b), (1, .ref (gb g + 1)), (2, .ref (gb g + 178)), (3, .ref (gb g + 194)), (4, .int x4)]) hx hb dL_law_2779 hl (by decide) rfl (fun ls hl => ?_)
    refine lv_aload_n hx hb dL_law_2781 rfl (lv_at hl 3 rfl) ?_
    refine lv_aload_n hx hb dL_law_2782 rfl (lv_at hl 1 rfl) ?_
    refine lv_iload hx hb dL_law_2783 (lv_at hl 5 rfl) ?_
    refine lv_iconst (v := (1 : Int32)) hx hb dL_law_2785 (by decide) ?_
    refine lv_iadd hx hb dL_law_2786 ?_
    refine va_sld hx hb hX hbl hbA S.2 h1 dL_law_2787 ?_
    refine lv_aload_n hx hb dL_law_2788 rfl (lv_at hl 1 rfl) ?_
    refine lv_iload hx hb dL_law_2789 (lv_at hl 5 rfl) ?_
    refine lv_iconst (v := (2 : Int32)) hx hb dL_law_2791 (by decide) ?_
    refine lv_iadd hx hb dL_law_2792 ?_
    refine va_sld hx hb hX hbl hbA S.2 h2 dL_law_2793 ?_
    refine x_callVI C S KX12 ok_178 (ok_X12_closureLength (L := L) hmod hSh ok_178) ⟨cd_X12_closureLength, ni_RX12, ml_RL_323, in_X12_closureLength, sl_X12_closureLength⟩ ⟨by decide, by decide⟩ rfl ⟨by decide, by decide⟩ hl.1 rfl (Nat.le_of_ble_eq_true rfl) ⟨by show _ ≤ 601024; omega, by show _ ≤ 7293034; omega⟩ dL_law_2794 (fun H locs S => ?_)
    refine lv_istore (lv' := [(6, .int b2), (5, .int 1), (0, .ref b), (1, .ref (gb g + 1)), (2, .ref (gb g + 178)), (3, .ref (gb g + 194)), (4, .int x4)]) hx hb dL_law_2797 hl (by decide) rfl (fun ls hl => ?_)
    refine lv_aload_n hx hb dL_law_2799 rfl (lv_at hl 4 rfl) ?_
    refine x_callVI C S KX12 ok_178 (ok_X12_thrown (L := L) (thr_eq N R σ2 178) hSh ok_178) ⟨cd_X12_thrown, ni_RX12, ml_RL_178, in_X12_thrown, sl_X12_thrown⟩ ⟨by decide, by decide⟩ rfl ⟨by decide, by decide⟩ hl.1 rfl (Nat.le_of_ble_eq_true rfl) ⟨by show _ ≤ 601024; omega, by show _ ≤ 7293034; omega⟩ dL_law_2800 (fun H locs S => ?_)
    refine lv_iload hx hb dL_law_2803 (lv_at hl 1 rfl) ?_
    refine lv_icmp_eq (tgt := 2810) hx hb dL_law_2805 (by decide) (fun c1 => ?_) (fun c1 => absurd ht c1)
    refine lv_iload hx hb dL_law_2810 (lv_at hl 1 rfl) ?_
    refine lv_if_ne (tgt := 2827) hx hb dL_law_2812 (by decide) (fun c2 => ?_) (fun c2 => absurd c2 (by decide))
    refine lv_goto (tgt := 3423) hx hb dL_law_2827 (by decide) ?_
    exact W.widen (k := cells + 4) (n := slots + 24) (by omega) (by omega) (kk σ2 R L H locs ls hI2 S (lv_sub hl [2, 3, 4, 5, 6] rfl))
set_option maxHeartbeats 4000000 in
set_option maxRecDepth 100000 in
theorem lc_47 {l : Launch} {g : GL} {p : Program} {e : Jvm.Env} {s : State} {m : MethodId} {below : List Frame} {meth : Method} {c : Code} {b Lx : Nat} {xs : Nat → Int32} {N : Nat} {Inv : SI → (Nat → Nat → Nat) → Prop} {σ : SI} {R : Nat → Nat → Nat} {L : Nat → Nat → Int64} {x4 : Int32} {cells slots : Nat} (C : Cx l g p s m meth c cL_law 7 RL) (hX : va_X b Lx xs s s.heap) (hbl : b < s.heap.size) (hbA : ¬ gA g b) (hI : Inv σ R) (hIS : InvOk Inv) (hAg : Ag_47 N Inv) (h1 : vp_in (x4 + 1) Lx) (h2 : vp_in (x4 + 2) Lx) (h3 : vp_in (x4 + 3) Lx) (hcs : cells + 4 ≤ 601024 ∧ slots + 24 ≤ 7293034) (kk : ∀ (σ' : SI) (R' : Nat → Nat → Nat) (L' : Nat → Nat → Int64) (H : Heap) (locs : List Loc) (ls : Array Slot), Inv σ' R' → S2 g s σ' R' L' H locs → lv_has ls 7 [(0, .ref b), (1, .ref (gb g + 1)), (2, .ref (gb g + 178)), (3, .ref (gb g + 194)), (4, .int x4)] → W p l e room_1 s m #[Value.ref b] below meth c H locs (cells + 4) (slots + 24) (lw_Z below #[Value.ref b] s) (F0 m 3423 ls [])) : ∀ (H : Heap) (locs : List Loc) (ls : Array Slot), S2 g s σ R L H locs → lv_has ls 7 [(0, .ref b), (1, .ref (gb g + 1)), (2, .ref (gb g + 178)), (3, .ref (gb g + 194)), (4, .int x4)] → W p l e room_1 s m #[Value.ref b] below meth c H locs (cells) (slots) (lw_Z below #[Value.ref b] s) (F0 m 2830 ls []) := by
  intro H locs ls S hl
  obtain ⟨hc1, hc2⟩ := hcs
  have hx := C.1
  have hb := C.2.1
  have hSh := hIS σ R hI
  obtain ⟨res, σ1, b2, σ2, hm, hmod, hI2, hret, hthr⟩ := hAg σ R (xs (x4 + 1).toNatClampNeg) (xs (x4 + 2).toNatClampNeg) (xs (x4 + 3).toNatClampNeg) hI
  cases res with
  | inl v =>
    obtain ⟨ht, rfl⟩ := hret v rfl
    refine lv_aload_n hx hb dL_law_2830 rfl (lv_at hl 1 rfl) ?_
    refine lv_aload_n hx hb dL_law_2831 rfl (lv_at hl 0 rfl) ?_
    refine lv_iload hx hb dL_law_2832 (lv_at hl 4 rfl) ?_
    refine lv_iconst (v := (1 : Int32)) hx hb dL_law_2834 (by decide) ?_
    refine lv_iadd hx hb dL_law_2835 ?_
    refine va_sld hx hb hX hbl hbA S.2 h1 dL_law_2836 ?_
    refine lv_aload_n hx hb dL_law_2837 rfl (lv_at hl 0 rfl) ?_
    refine lv_iload hx hb dL_law_2838 (lv_at hl 4 rfl) ?_
    refine lv_iconst (v := (2 : Int32)) hx hb dL_law_2840 (by decide) ?_
    refine lv_iadd hx hb dL_law_2841 ?_
    refine va_sld hx hb hX hbl hbA S.2 h2 dL_law_2842 ?_
    refine lv_aload_n hx hb dL_law_2843 rfl (lv_at hl 0 rfl) ?_
    refine lv_iload hx hb dL_law_2844 (lv_at hl 4 rfl) ?_
    refine lv_iconst (v := (3 : Int32)) hx hb dL_law_2846 (by decide) ?_
    refine lv_iadd hx hb dL_law_2847 ?_
    refine va_sld hx hb hX hbl hbA S.2 h3 dL_law_2848 ?_
    refine lv_aload_n hx hb dL_law_2849 rfl (lv_at hl 3 rfl) ?_
    refine v_callW C S (h_openMinutes_ret (L := L) hm hSh ok_1 ok_194) ⟨cd_L_openMinutes, ni_RL, ml_RL_324, st_L_openMinutes⟩ ⟨by decide, by decide⟩ rfl ⟨by decide, by decide⟩ hl.1 rfl (Nat.le_of_ble_eq_true rfl) ⟨by show _ ≤ 601024; omega, by show _ ≤ 7293034; omega⟩ dL_law_2850 (fun w σ' H locs hp S => ?_)
    obtain ⟨rfl, rfl⟩ := hp
    have S : S2 g s σ1 R (fun a j => if a = 194 ∧ j = 0 then v.toInt64 else L a j) H locs := S
    obtain ⟨L1, hL1, hLv⟩ : ∃ L1 : Nat → Nat → Int64, (fun a j => if a = 194 ∧ j = 0 then v.toInt64 else L a j) = L1 ∧ L1 194 0 = v.toInt64 := ⟨_, rfl, if_pos ⟨rfl, rfl⟩⟩
    rw [hL1] at S
    refine lv_istore (lv' := [(5, .int 0), (0, .ref b), (1, .ref (gb g + 1)), (2, .ref (gb g + 178)), (3, .ref (gb g + 194)), (4, .int x4)]) hx hb dL_law_2853 hl (by decide) rfl (fun ls hl => ?_)
    refine lv_aload_n hx hb dL_law_2855 rfl (lv_at hl 3 rfl) ?_
    refine lv_aload_n hx hb dL_law_2856 rfl (lv_at hl 1 rfl) ?_
    refine lv_iload hx hb dL_law_2857 (lv_at hl 5 rfl) ?_
    refine lv_iconst (v := (1 : Int32)) hx hb dL_law_2859 (by decide) ?_
    refine lv_iadd hx hb dL_law_2860 ?_
    refine va_sld hx hb hX hbl hbA S.2 h1 dL_law_2861 ?_
    refine lv_aload_n hx hb dL_law_2862 rfl (lv_at hl 1 rfl) ?_
    refine lv_iload hx hb dL_law_2863 (lv_at hl 5 rfl) ?_
    refine lv_iconst (v := (2 : Int32)) hx hb dL_law_2865 (by decide) ?_
    refine lv_iadd hx hb dL_law_2866 ?_
    refine va_sld hx hb hX hbl hbA S.2 h2 dL_law_2867 ?_
    refine lv_aload_n hx hb dL_law_2868 rfl (lv_at hl 1 rfl) ?_
    refine lv_iload hx hb dL_law_2869 (lv_at hl 5 rfl) ?_
    refine lv_iconst (v := (3 : Int32)) hx hb dL_law_2871 (by decide) ?_
    refine lv_iadd hx hb dL_law_2872 ?_
    refine va_sld hx hb hX hbl hbA S.2 h3 dL_law_2873 ?_
    refine x_callVI C S KX12 ok_178 (ok_X12_openMinutes (L := L1) hmod hSh ok_178) ⟨cd_X12_openMinutes, ni_RX12, ml_RL_326, in_X12_openMinutes, sl_X12_openMinutes⟩ ⟨by decide, by decide⟩ rfl ⟨by decide, by decide⟩ hl.1 rfl (Nat.le_of_ble_eq_true rfl) ⟨by show _ ≤ 601024; omega, by show _ ≤ 7293034; omega⟩ dL_law_2874 (fun H locs S => ?_)
    refine lv_istore (lv' := [(6, .int v), (5, .int 0), (0, .ref b), (1, .ref (gb g + 1)), (2, .ref (gb g + 178)), (3, .ref (gb g + 194)), (4, .int x4)]) hx hb dL_law_2877 hl (by decide) rfl (fun ls hl => ?_)
    refine lv_aload_n hx hb dL_law_2879 rfl (lv_at hl 4 rfl) ?_
    refine x_callVI C S KX12 ok_178 (ok_X12_thrown (L := L1) (thr_eq N R σ2 178) hSh ok_178) ⟨cd_X12_thrown, ni_RX12, ml_RL_178, in_X12_thrown, sl_X12_thrown⟩ ⟨by decide, by decide⟩ rfl ⟨by decide, by decide⟩ hl.1 rfl (Nat.le_of_ble_eq_true rfl) ⟨by show _ ≤ 601024; omega, by show _ ≤ 7293034; omega⟩ dL_law_2880 (fun H locs S => ?_)
    refine lv_iload hx hb dL_law_2883 (lv_at hl 1 rfl) ?_
    refine lv_icmp_eq (tgt := 2890) hx hb dL_law_2885 (by decide) (fun c1 => ?_) (fun c1 => absurd ht c1)
    refine lv_iload hx hb dL_law_2890 (lv_at hl 1 rfl) ?_
    refine lv_if_ne (tgt := 2907) hx hb dL_law_2892 (by decide) (fun c2 => absurd rfl c2) (fun c2 => ?_)
    refine lv_aload_n hx hb dL_law_2895 rfl (lv_at hl 5 rfl) ?_
    refine lv_iconst (v := (0 : Int32)) hx hb dL_law_2896 (by decide) ?_
    refine x_lald C S ok_194 dL_law_2897 ?_
    refine lv_iload hx hb dL_law_2898 (lv_at hl 0 rfl) ?_
    refine lv_i2l hx hb dL_law_2900 rfl ?_
    refine W.lcmp hx hb dL_law_2901 ?_
    refine lv_if_eq (tgt := 2907) hx hb dL_law_2902 (by decide) (fun c4 => ?_) (fun c4 => absurd (by show lg_cmp (L1 194 0) _ = 0; rw [hLv]; exact lgc_self _) c4)
    refine lv_goto (tgt := 3423) hx hb dL_law_2907 (by decide) ?_
    exact W.widen (k := cells + 4) (n := slots + 24) (by omega) (by omega) (kk σ2 R L1 H locs ls hI2 S (lv_sub hl [2, 3, 4, 5, 6] rfl))
  | inr q =>
    rcases hthr q rfl with ⟨rfl, ht⟩ | ⟨rfl, ht⟩
    · refine lv_aload_n hx hb dL_law_2830 rfl (lv_at hl 1 rfl) ?_
      refine lv_aload_n hx hb dL_law_2831 rfl (lv_at hl 0 rfl) ?_
      refine lv_iload hx hb dL_law_2832 (lv_at hl 4 rfl) ?_
      refine lv_iconst (v := (1 : Int32)) hx hb dL_law_2834 (by decide) ?_
      refine lv_iadd hx hb dL_law_2835 ?_
      refine va_sld hx hb hX hbl hbA S.2 h1 dL_law_2836 ?_
      refine lv_aload_n hx hb dL_law_2837 rfl (lv_at hl 0 rfl) ?_
      refine lv_iload hx hb dL_law_2838 (lv_at hl 4 rfl) ?_
      refine lv_iconst (v := (2 : Int32)) hx hb dL_law_2840 (by decide) ?_
      refine lv_iadd hx hb dL_law_2841 ?_
      refine va_sld hx hb hX hbl hbA S.2 h2 dL_law_2842 ?_
      refine lv_aload_n hx hb dL_law_2843 rfl (lv_at hl 0 rfl) ?_
      refine lv_iload hx hb dL_law_2844 (lv_at hl 4 rfl) ?_
      refine lv_iconst (v := (3 : Int32)) hx hb dL_law_2846 (by decide) ?_
      refine lv_iadd hx hb dL_law_2847 ?_
      refine va_sld hx hb hX hbl hbA S.2 h3 dL_law_2848 ?_
      refine lv_aload_n hx hb dL_law_2849 rfl (lv_at hl 3 rfl) ?_
      refine v_callW C S (h_openMinutes_x0 (L := L) hm hSh ok_1 ok_194) ⟨cd_L_openMinutes, ni_RL, ml_RL_324, st_L_openMinutes⟩ ⟨by decide, by decide⟩ rfl ⟨by decide, by decide⟩ hl.1 rfl (Nat.le_of_ble_eq_true rfl) ⟨by show _ ≤ 601024; omega, by show _ ≤ 7293034; omega⟩ dL_law_2850 (fun w σ' H locs hp S => ?_)
      obtain ⟨rfl, rfl⟩ := hp
      have S : S2 g s σ1 R L H locs := S
      refine lv_istore (lv' := [(5, .int 1), (0, .ref b), (1, .ref (gb g + 1)), (2, .ref (gb g + 178)), (3, .ref (gb g + 194)), (4, .int x4)]) hx hb dL_law_2853 hl (by decide) rfl (fun ls hl => ?_)
      refine lv_aload_n hx hb dL_law_2855 rfl (lv_at hl 3 rfl) ?_
      refine lv_aload_n hx hb dL_law_2856 rfl (lv_at hl 1 rfl) ?_
      refine lv_iload hx hb dL_law_2857 (lv_at hl 5 rfl) ?_
      refine lv_iconst (v := (1 : Int32)) hx hb dL_law_2859 (by decide) ?_
      refine lv_iadd hx hb dL_law_2860 ?_
      refine va_sld hx hb hX hbl hbA S.2 h1 dL_law_2861 ?_
      refine lv_aload_n hx hb dL_law_2862 rfl (lv_at hl 1 rfl) ?_
      refine lv_iload hx hb dL_law_2863 (lv_at hl 5 rfl) ?_
      refine lv_iconst (v := (2 : Int32)) hx hb dL_law_2865 (by decide) ?_
      refine lv_iadd hx hb dL_law_2866 ?_
      refine va_sld hx hb hX hbl hbA S.2 h2 dL_law_2867 ?_
      refine lv_aload_n hx hb dL_law_2868 rfl (lv_at hl 1 rfl) ?_
      refine lv_iload hx hb dL_law_2869 (lv_at hl 5 rfl) ?_
      refine lv_iconst (v := (3 : Int32)) hx hb dL_law_2871 (by decide) ?_
      refine lv_iadd hx hb dL_law_2872 ?_
      refine va_sld hx hb hX hbl hbA S.2 h3 dL_law_2873 ?_
      refine x_callVI C S KX12 ok_178 (ok_X12_openMinutes (L := L) hmod hSh ok_178) ⟨cd_X12_openMinutes, ni_RX12, ml_RL_326, in_X12_openMinutes, sl_X12_openMinutes⟩ ⟨by decide, by decide⟩ rfl ⟨by decide, by decide⟩ hl.1 rfl (Nat.le_of_ble_eq_true rfl) ⟨by show _ ≤ 601024; omega, by show _ ≤ 7293034; omega⟩ dL_law_2874 (fun H locs S => ?_)
      refine lv_istore (lv' := [(6, .int b2), (5, .int 1), (0, .ref b), (1, .ref (gb g + 1)), (2, .ref (gb g + 178)), (3, .ref (gb g + 194)), (4, .int x4)]) hx hb dL_law_2877 hl (by decide) rfl (fun ls hl => ?_)
      refine lv_aload_n hx hb dL_law_2879 rfl (lv_at hl 4 rfl) ?_
      refine x_callVI C S KX12 ok_178 (ok_X12_thrown (L := L) (thr_eq N R σ2 178) hSh ok_178) ⟨cd_X12_thrown, ni_RX12, ml_RL_178, in_X12_thrown, sl_X12_thrown⟩ ⟨by decide, by decide⟩ rfl ⟨by decide, by decide⟩ hl.1 rfl (Nat.le_of_ble_eq_true rfl) ⟨by show _ ≤ 601024; omega, by show _ ≤ 7293034; omega⟩ dL_law_2880 (fun H locs S => ?_)
      refine lv_iload hx hb dL_law_2883 (lv_at hl 1 rfl) ?_
      refine lv_icmp_eq (tgt := 2890) hx hb dL_law_2885 (by decide) (fun c1 => ?_) (fun c1 => absurd ht c1)
      refine lv_iload hx hb dL_law_2890 (lv_at hl 1 rfl) ?_
      refine lv_if_ne (tgt := 2907) hx hb dL_law_2892 (by decide) (fun c2 => ?_) (fun c2 => absurd c2 (by decide))
      refine lv_goto (tgt := 3423) hx hb dL_law_2907 (by decide) ?_
      exact W.widen (k := cells + 4) (n := slots + 24) (by omega) (by omega) (kk σ2 R L H locs ls hI2 S (lv_sub hl [2, 3, 4, 5, 6] rfl))
    · refine lv_aload_n hx hb dL_law_2830 rfl (lv_at hl 1 rfl) ?_
      refine lv_aload_n hx hb dL_law_2831 rfl (lv_at hl 0 rfl) ?_
      refine lv_iload hx hb dL_law_2832 (lv_at hl 4 rfl) ?_
      refine lv_iconst (v := (1 : Int32)) hx hb dL_law_2834 (by decide) ?_
      refine lv_iadd hx hb dL_law_2835 ?_
      refine va_sld hx hb hX hbl hbA S.2 h1 dL_law_2836 ?_
      refine lv_aload_n hx hb dL_law_2837 rfl (lv_at hl 0 rfl) ?_
      refine lv_iload hx hb dL_law_2838 (lv_at hl 4 rfl) ?_
      refine lv_iconst (v := (2 : Int32)) hx hb dL_law_2840 (by decide) ?_
      refine lv_iadd hx hb dL_law_2841 ?_
      refine va_sld hx hb hX hbl hbA S.2 h2 dL_law_2842 ?_
      refine lv_aload_n hx hb dL_law_2843 rfl (lv_at hl 0 rfl) ?_
      refine lv_iload hx hb dL_law_2844 (lv_at hl 4 rfl) ?_
      refine lv_iconst (v := (3 : Int32)) hx hb dL_law_2846 (by decide) ?_
      refine lv_iadd hx hb dL_law_2847 ?_
      refine va_sld hx hb hX hbl hbA S.2 h3 dL_law_2848 ?_
      refine lv_aload_n hx hb dL_law_2849 rfl (lv_at hl 3 rfl) ?_
      refine v_callW C S (h_openMinutes_x1 (L := L) hm hSh ok_1 ok_194) ⟨cd_L_openMinutes, ni_RL, ml_RL_324, st_L_openMinutes⟩ ⟨by decide, by decide⟩ rfl ⟨by decide, by decide⟩ hl.1 rfl (Nat.le_of_ble_eq_true rfl) ⟨by show _ ≤ 601024; omega, by show _ ≤ 7293034; omega⟩ dL_law_2850 (fun w σ' H locs hp S => ?_)
      obtain ⟨rfl, rfl⟩ := hp
      have S : S2 g s σ1 R L H locs := S
      refine lv_istore (lv' := [(5, .int 2), (0, .ref b), (1, .ref (gb g + 1)), (2, .ref (gb g + 178)), (3, .ref (gb g + 194)), (4, .int x4)]) hx hb dL_law_2853 hl (by decide) rfl (fun ls hl => ?_)
      refine lv_aload_n hx hb dL_law_2855 rfl (lv_at hl 3 rfl) ?_
      refine lv_aload_n hx hb dL_law_2856 rfl (lv_at hl 1 rfl) ?_
      refine lv_iload hx hb dL_law_2857 (lv_at hl 5 rfl) ?_
      refine lv_iconst (v := (1 : Int32)) hx hb dL_law_2859 (by decide) ?_
      refine lv_iadd hx hb dL_law_2860 ?_
      refine va_sld hx hb hX hbl hbA S.2 h1 dL_law_2861 ?_
      refine lv_aload_n hx hb dL_law_2862 rfl (lv_at hl 1 rfl) ?_
      refine lv_iload hx hb dL_law_2863 (lv_at hl 5 rfl) ?_
      refine lv_iconst (v := (2 : Int32)) hx hb dL_law_2865 (by decide) ?_
      refine lv_iadd hx hb dL_law_2866 ?_
      refine va_sld hx hb hX hbl hbA S.2 h2 dL_law_2867 ?_
      refine lv_aload_n hx hb dL_law_2868 rfl (lv_at hl 1 rfl) ?_
      refine lv_iload hx hb dL_law_2869 (lv_at hl 5 rfl) ?_
      refine lv_iconst (v := (3 : Int32)) hx hb dL_law_2871 (by decide) ?_
      refine lv_iadd hx hb dL_law_2872 ?_
      refine va_sld hx hb hX hbl hbA S.2 h3 dL_law_2873 ?_
      refine x_callVI C S KX12 ok_178 (ok_X12_openMinutes (L := L) hmod hSh ok_178) ⟨cd_X12_openMinutes, ni_RX12, ml_RL_326, in_X12_openMinutes, sl_X12_openMinutes⟩ ⟨by decide, by decide⟩ rfl ⟨by decide, by decide⟩ hl.1 rfl (Nat.le_of_ble_eq_true rfl) ⟨by show _ ≤ 601024; omega, by show _ ≤ 7293034; omega⟩ dL_law_2874 (fun H locs S => ?_)
      refine lv_istore (lv' := [(6, .int b2), (5, .int 2), (0, .ref b), (1, .ref (gb g + 1)), (2, .ref (gb g + 178)), (3, .ref (gb g + 194)), (4, .int x4)]) hx hb dL_law_2877 hl (by decide) rfl (fun ls hl => ?_)
      refine lv_aload_n hx hb dL_law_2879 rfl (lv_at hl 4 rfl) ?_
      refine x_callVI C S KX12 ok_178 (ok_X12_thrown (L := L) (thr_eq N R σ2 178) hSh ok_178) ⟨cd_X12_thrown, ni_RX12, ml_RL_178, in_X12_thrown, sl_X12_thrown⟩ ⟨by decide, by decide⟩ rfl ⟨by decide, by decide⟩ hl.1 rfl (Nat.le_of_ble_eq_true rfl) ⟨by show _ ≤ 601024; omega, by show _ ≤ 7293034; omega⟩ dL_law_2880 (fun H locs S => ?_)
      refine lv_iload hx hb dL_law_2883 (lv_at hl 1 rfl) ?_
      refine lv_icmp_eq (tgt := 2890) hx hb dL_law_2885 (by decide) (fun c1 => ?_) (fun c1 => absurd ht c1)
      refine lv_iload hx hb dL_law_2890 (lv_at hl 1 rfl) ?_
      refine lv_if_ne (tgt := 2907) hx hb dL_law_2892 (by decide) (fun c2 => ?_) (fun c2 => absurd c2 (by decide))
      refine lv_goto (tgt := 3423) hx hb dL_law_2907 (by decide) ?_
      exact W.widen (k := cells + 4) (n := slots + 24) (by omega) (by omega) (kk σ2 R L H locs ls hI2 S (lv_sub hl [2, 3, 4, 5, 6] rfl))
set_option maxHeartbeats 4000000 in
set_option maxRecDepth 100000 in
theorem lc_48 {l : Launch} {g : GL} {p : Program} {e : Jvm.Env} {s : State} {m : MethodId} {below : List Frame} {meth : Method} {c : Code} {b Lx : Nat} {xs : Nat → Int32} {N : Nat} {Inv : SI → (Nat → Nat → Nat) → Prop} {σ : SI} {R : Nat → Nat → Nat} {L : Nat → Nat → Int64} {x4 : Int32} {cells slots : Nat} (C : Cx l g p s m meth c cL_law 7 RL) (hX : va_X b Lx xs s s.heap) (hbl : b < s.heap.size) (hbA : ¬ gA g b) (hI : Inv σ R) (hIS : InvOk Inv) (hAg : Ag_48 N Inv) (h1 : vp_in (x4 + 1) Lx) (h2 : vp_in (x4 + 2) Lx) (hcs : cells + 4 ≤ 601024 ∧ slots + 24 ≤ 7293034) (kk : ∀ (σ' : SI) (R' : Nat → Nat → Nat) (L' : Nat → Nat → Int64) (H : Heap) (locs : List Loc) (ls : Array Slot), Inv σ' R' → S2 g s σ' R' L' H locs → lv_has ls 7 [(0, .ref b), (1, .ref (gb g + 1)), (2, .ref (gb g + 178)), (3, .ref (gb g + 194)), (4, .int x4)] → W p l e room_1 s m #[Value.ref b] below meth c H locs (cells + 4) (slots + 24) (lw_Z below #[Value.ref b] s) (F0 m 3423 ls [])) : ∀ (H : Heap) (locs : List Loc) (ls : Array Slot), S2 g s σ R L H locs → lv_has ls 7 [(0, .ref b), (1, .ref (gb g + 1)), (2, .ref (gb g + 178)), (3, .ref (gb g + 194)), (4, .int x4)] → W p l e room_1 s m #[Value.ref b] below meth c H locs (cells) (slots) (lw_Z below #[Value.ref b] s) (F0 m 2910 ls []) := by
  intro H locs ls S hl
  obtain ⟨hc1, hc2⟩ := hcs
  have hx := C.1
  have hb := C.2.1
  have hSh := hIS σ R hI
  obtain ⟨res, σ1, b2, σ2, hm, hmod, hI2, hret, hthr⟩ := hAg σ R (xs (x4 + 1).toNatClampNeg) (xs (x4 + 2).toNatClampNeg) hI
  cases res with
  | inl v =>
    obtain ⟨ht, rfl⟩ := hret v rfl
    refine lv_aload_n hx hb dL_law_2910 rfl (lv_at hl 1 rfl) ?_
    refine lv_aload_n hx hb dL_law_2911 rfl (lv_at hl 0 rfl) ?_
    refine lv_iload hx hb dL_law_2912 (lv_at hl 4 rfl) ?_
    refine lv_iconst (v := (1 : Int32)) hx hb dL_law_2914 (by decide) ?_
    refine lv_iadd hx hb dL_law_2915 ?_
    refine va_sld hx hb hX hbl hbA S.2 h1 dL_law_2916 ?_
    refine lv_aload_n hx hb dL_law_2917 rfl (lv_at hl 0 rfl) ?_
    refine lv_iload hx hb dL_law_2918 (lv_at hl 4 rfl) ?_
    refine lv_iconst (v := (2 : Int32)) hx hb dL_law_2920 (by decide) ?_
    refine lv_iadd hx hb dL_law_2921 ?_
    refine va_sld hx hb hX hbl hbA S.2 h2 dL_law_2922 ?_
    refine lv_aload_n hx hb dL_law_2923 rfl (lv_at hl 3 rfl) ?_
    refine v_callW C S (h_sharedMinutes_ret (L := L) hm hSh ok_1 ok_194) ⟨cd_L_sharedMinutes, ni_RL, ml_RL_327, st_L_sharedMinutes⟩ ⟨by decide, by decide⟩ rfl ⟨by decide, by decide⟩ hl.1 rfl (Nat.le_of_ble_eq_true rfl) ⟨by show _ ≤ 601024; omega, by show _ ≤ 7293034; omega⟩ dL_law_2924 (fun w σ' H locs hp S => ?_)
    obtain ⟨rfl, rfl⟩ := hp
    have S : S2 g s σ1 R (fun a j => if a = 194 ∧ j = 0 then v.toInt64 else L a j) H locs := S
    obtain ⟨L1, hL1, hLv⟩ : ∃ L1 : Nat → Nat → Int64, (fun a j => if a = 194 ∧ j = 0 then v.toInt64 else L a j) = L1 ∧ L1 194 0 = v.toInt64 := ⟨_, rfl, if_pos ⟨rfl, rfl⟩⟩
    rw [hL1] at S
    refine lv_istore (lv' := [(5, .int 0), (0, .ref b), (1, .ref (gb g + 1)), (2, .ref (gb g + 178)), (3, .ref (gb g + 194)), (4, .int x4)]) hx hb dL_law_2927 hl (by decide) rfl (fun ls hl => ?_)
    refine lv_aload_n hx hb dL_law_2929 rfl (lv_at hl 3 rfl) ?_
    refine lv_aload_n hx hb dL_law_2930 rfl (lv_at hl 1 rfl) ?_
    refine lv_iload hx hb dL_law_2931 (lv_at hl 5 rfl) ?_
    refine lv_iconst (v := (1 : Int32)) hx hb dL_law_2933 (by decide) ?_
    refine lv_iadd hx hb dL_law_2934 ?_
    refine va_sld hx hb hX hbl hbA S.2 h1 dL_law_2935 ?_
    refine lv_aload_n hx hb dL_law_2936 rfl (lv_at hl 1 rfl) ?_
    refine lv_iload hx hb dL_law_2937 (lv_at hl 5 rfl) ?_
    refine lv_iconst (v := (2 : Int32)) hx hb dL_law_2939 (by decide) ?_
    refine lv_iadd hx hb dL_law_2940 ?_
    refine va_sld hx hb hX hbl hbA S.2 h2 dL_law_2941 ?_
    refine x_callVI C S KX12 ok_178 (ok_X12_sharedMinutes (L := L1) hmod hSh ok_178) ⟨cd_X12_sharedMinutes, ni_RX12, ml_RL_329, in_X12_sharedMinutes, sl_X12_sharedMinutes⟩ ⟨by decide, by decide⟩ rfl ⟨by decide, by decide⟩ hl.1 rfl (Nat.le_of_ble_eq_true rfl) ⟨by show _ ≤ 601024; omega, by show _ ≤ 7293034; omega⟩ dL_law_2942 (fun H locs S => ?_)
    refine lv_istore (lv' := [(6, .int v), (5, .int 0), (0, .ref b), (1, .ref (gb g + 1)), (2, .ref (gb g + 178)), (3, .ref (gb g + 194)), (4, .int x4)]) hx hb dL_law_2945 hl (by decide) rfl (fun ls hl => ?_)
    refine lv_aload_n hx hb dL_law_2947 rfl (lv_at hl 4 rfl) ?_
    refine x_callVI C S KX12 ok_178 (ok_X12_thrown (L := L1) (thr_eq N R σ2 178) hSh ok_178) ⟨cd_X12_thrown, ni_RX12, ml_RL_178, in_X12_thrown, sl_X12_thrown⟩ ⟨by decide, by decide⟩ rfl ⟨by decide, by decide⟩ hl.1 rfl (Nat.le_of_ble_eq_true rfl) ⟨by show _ ≤ 601024; omega, by show _ ≤ 7293034; omega⟩ dL_law_2948 (fun H locs S => ?_)
    refine lv_iload hx hb dL_law_2951 (lv_at hl 1 rfl) ?_
    refine lv_icmp_eq (tgt := 2958) hx hb dL_law_2953 (by decide) (fun c1 => ?_) (fun c1 => absurd ht c1)
    refine lv_iload hx hb dL_law_2958 (lv_at hl 1 rfl) ?_
    refine lv_if_ne (tgt := 2975) hx hb dL_law_2960 (by decide) (fun c2 => absurd rfl c2) (fun c2 => ?_)
    refine lv_aload_n hx hb dL_law_2963 rfl (lv_at hl 5 rfl) ?_
    refine lv_iconst (v := (0 : Int32)) hx hb dL_law_2964 (by decide) ?_
    refine x_lald C S ok_194 dL_law_2965 ?_
    refine lv_iload hx hb dL_law_2966 (lv_at hl 0 rfl) ?_
    refine lv_i2l hx hb dL_law_2968 rfl ?_
    refine W.lcmp hx hb dL_law_2969 ?_
    refine lv_if_eq (tgt := 2975) hx hb dL_law_2970 (by decide) (fun c4 => ?_) (fun c4 => absurd (by show lg_cmp (L1 194 0) _ = 0; rw [hLv]; exact lgc_self _) c4)
    refine lv_goto (tgt := 3423) hx hb dL_law_2975 (by decide) ?_
    exact W.widen (k := cells + 4) (n := slots + 24) (by omega) (by omega) (kk σ2 R L1 H locs ls hI2 S (lv_sub hl [2, 3, 4, 5, 6] rfl))
  | inr q =>
    obtain ⟨rfl, ht⟩ := hthr q rfl
    refine lv_aload_n hx hb dL_law_2910 rfl (lv_at hl 1 rfl) ?_
    refine lv_aload_n hx hb dL_law_2911 rfl (lv_at hl 0 rfl) ?_
    refine lv_iload hx hb dL_law_2912 (lv_at hl 4 rfl) ?_
    refine lv_iconst (v := (1 : Int32)) hx hb dL_law_2914 (by decide) ?_
    refine lv_iadd hx hb dL_law_2915 ?_
    refine va_sld hx hb hX hbl hbA S.2 h1 dL_law_2916 ?_
    refine lv_aload_n hx hb dL_law_2917 rfl (lv_at hl 0 rfl) ?_
    refine lv_iload hx hb dL_law_2918 (lv_at hl 4 rfl) ?_
    refine lv_iconst (v := (2 : Int32)) hx hb dL_law_2920 (by decide) ?_
    refine lv_iadd hx hb dL_law_2921 ?_
    refine va_sld hx hb hX hbl hbA S.2 h2 dL_law_2922 ?_
    refine lv_aload_n hx hb dL_law_2923 rfl (lv_at hl 3 rfl) ?_
    refine v_callW C S (h_sharedMinutes_x0 (L := L) hm hSh ok_1 ok_194) ⟨cd_L_sharedMinutes, ni_RL, ml_RL_327, st_L_sharedMinutes⟩ ⟨by decide, by decide⟩ rfl ⟨by decide, by decide⟩ hl.1 rfl (Nat.le_of_ble_eq_true rfl) ⟨by show _ ≤ 601024; omega, by show _ ≤ 7293034; omega⟩ dL_law_2924 (fun w σ' H locs hp S => ?_)
    obtain ⟨rfl, rfl⟩ := hp
    have S : S2 g s σ1 R L H locs := S
    refine lv_istore (lv' := [(5, .int 1), (0, .ref b), (1, .ref (gb g + 1)), (2, .ref (gb g + 178)), (3, .ref (gb g + 194)), (4, .int x4)]) hx hb dL_law_2927 hl (by decide) rfl (fun ls hl => ?_)
    refine lv_aload_n hx hb dL_law_2929 rfl (lv_at hl 3 rfl) ?_
    refine lv_aload_n hx hb dL_law_2930 rfl (lv_at hl 1 rfl) ?_
    refine lv_iload hx hb dL_law_2931 (lv_at hl 5 rfl) ?_
    refine lv_iconst (v := (1 : Int32)) hx hb dL_law_2933 (by decide) ?_
    refine lv_iadd hx hb dL_law_2934 ?_
    refine va_sld hx hb hX hbl hbA S.2 h1 dL_law_2935 ?_
    refine lv_aload_n hx hb dL_law_2936 rfl (lv_at hl 1 rfl) ?_
    refine lv_iload hx hb dL_law_2937 (lv_at hl 5 rfl) ?_
    refine lv_iconst (v := (2 : Int32)) hx hb dL_law_2939 (by decide) ?_
    refine lv_iadd hx hb dL_law_2940 ?_
    refine va_sld hx hb hX hbl hbA S.2 h2 dL_law_2941 ?_
    refine x_callVI C S KX12 ok_178 (ok_X12_sharedMinutes (L := L) hmod hSh ok_178) ⟨cd_X12_sharedMinutes, ni_RX12, ml_RL_329, in_X12_sharedMinutes, sl_X12_sharedMinutes⟩ ⟨by decide, by decide⟩ rfl ⟨by decide, by decide⟩ hl.1 rfl (Nat.le_of_ble_eq_true rfl) ⟨by show _ ≤ 601024; omega, by show _ ≤ 7293034; omega⟩ dL_law_2942 (fun H locs S => ?_)
    refine lv_istore (lv' := [(6, .int b2), (5, .int 1), (0, .ref b), (1, .ref (gb g + 1)), (2, .ref (gb g + 178)), (3, .ref (gb g + 194)), (4, .int x4)]) hx hb dL_law_2945 hl (by decide) rfl (fun ls hl => ?_)
    refine lv_aload_n hx hb dL_law_2947 rfl (lv_at hl 4 rfl) ?_
    refine x_callVI C S KX12 ok_178 (ok_X12_thrown (L := L) (thr_eq N R σ2 178) hSh ok_178) ⟨cd_X12_thrown, ni_RX12, ml_RL_178, in_X12_thrown, sl_X12_thrown⟩ ⟨by decide, by decide⟩ rfl ⟨by decide, by decide⟩ hl.1 rfl (Nat.le_of_ble_eq_true rfl) ⟨by show _ ≤ 601024; omega, by show _ ≤ 7293034; omega⟩ dL_law_2948 (fun H locs S => ?_)
    refine lv_iload hx hb dL_law_2951 (lv_at hl 1 rfl) ?_
    refine lv_icmp_eq (tgt := 2958) hx hb dL_law_2953 (by decide) (fun c1 => ?_) (fun c1 => absurd ht c1)
    refine lv_iload hx hb dL_law_2958 (lv_at hl 1 rfl) ?_
    refine lv_if_ne (tgt := 2975) hx hb dL_law_2960 (by decide) (fun c2 => ?_) (fun c2 => absurd c2 (by decide))
    refine lv_goto (tgt := 3423) hx hb dL_law_2975 (by decide) ?_
    exact W.widen (k := cells + 4) (n := slots + 24) (by omega) (by omega) (kk σ2 R L H locs ls hI2 S (lv_sub hl [2, 3, 4, 5, 6] rfl))
set_option maxHeartbeats 4000000 in
set_option maxRecDepth 100000 in
theorem lc_49 {l : Launch} {g : GL} {p : Program} {e : Jvm.Env} {s : State} {m : MethodId} {below : List Frame} {meth : Method} {c : Code} {b Lx : Nat} {xs : Nat → Int32} {N : Nat} {Inv : SI → (Nat → Nat → Nat) → Prop} {σ : SI} {R : Nat → Nat → Nat} {L : Nat → Nat → Int64} {x4 : Int32} {cells slots : Nat} (C : Cx l g p s m meth c cL_law 7 RL) (hX : va_X b Lx xs s s.heap) (hbl : b < s.heap.size) (hbA : ¬ gA g b) (hI : Inv σ R) (hIS : InvOk Inv) (hAg : Ag_49 N Inv) (hcs : cells + 4 ≤ 601024 ∧ slots + 24 ≤ 7293034) (kk : ∀ (σ' : SI) (R' : Nat → Nat → Nat) (L' : Nat → Nat → Int64) (H : Heap) (locs : List Loc) (ls : Array Slot), Inv σ' R' → S2 g s σ' R' L' H locs → lv_has ls 7 [(0, .ref b), (1, .ref (gb g + 1)), (2, .ref (gb g + 178)), (3, .ref (gb g + 194)), (4, .int x4)] → W p l e room_1 s m #[Value.ref b] below meth c H locs (cells + 4) (slots + 24) (lw_Z below #[Value.ref b] s) (F0 m 3423 ls [])) : ∀ (H : Heap) (locs : List Loc) (ls : Array Slot), S2 g s σ R L H locs → lv_has ls 7 [(0, .ref b), (1, .ref (gb g + 1)), (2, .ref (gb g + 178)), (3, .ref (gb g + 194)), (4, .int x4)] → W p l e room_1 s m #[Value.ref b] below meth c H locs (cells) (slots) (lw_Z below #[Value.ref b] s) (F0 m 2978 ls []) := by
  intro H locs ls S hl
  obtain ⟨hc1, hc2⟩ := hcs
  have hx := C.1
  have hb := C.2.1
  have hSh := hIS σ R hI
  obtain ⟨b1, σ1, b2, σ2, hm, hmod, hI2, hres⟩ := hAg σ R hI
  refine lv_aload_n hx hb dL_law_2978 rfl (lv_at hl 1 rfl) ?_
  refine x_callVI C S KX11 ok_1 (ok_X11_busiestHour (L := L) hm hSh ok_1) ⟨cd_X11_busiestHour, ni_RX11, ml_RL_330, in_X11_busiestHour, sl_X11_busiestHour⟩ ⟨by decide, by decide⟩ rfl ⟨by decide, by decide⟩ hl.1 rfl (Nat.le_of_ble_eq_true rfl) ⟨by show _ ≤ 601024; omega, by show _ ≤ 7293034; omega⟩ dL_law_2979 (fun H locs S => ?_)
  refine lv_aload_n hx hb dL_law_2982 rfl (lv_at hl 2 rfl) ?_
  refine x_callVI C S KX12 ok_178 (ok_X12_busiestHour (L := L) hmod hSh ok_178) ⟨cd_X12_busiestHour, ni_RX12, ml_RL_333, in_X12_busiestHour, sl_X12_busiestHour⟩ ⟨by decide, by decide⟩ rfl ⟨by decide, by decide⟩ hl.1 rfl (Nat.le_of_ble_eq_true rfl) ⟨by show _ ≤ 601024; omega, by show _ ≤ 7293034; omega⟩ dL_law_2983 (fun H locs S => ?_)
  refine lv_icmp_eq (tgt := 3423) hx hb dL_law_2986 (by decide) (fun c1 => ?_) (fun c1 => absurd hres c1)
  exact W.widen (k := cells + 4) (n := slots + 24) (by omega) (by omega) (kk σ2 R L H locs ls hI2 S hl)
set_option maxHeartbeats 4000000 in
set_option maxRecDepth 100000 in
theorem lc_50 {l : Launch} {g : GL} {p : Program} {e : Jvm.Env} {s : State} {m : MethodId} {below : List Frame} {meth : Method} {c : Code} {b Lx : Nat} {xs : Nat → Int32} {N : Nat} {Inv : SI → (Nat → Nat → Nat) → Prop} {σ : SI} {R : Nat → Nat → Nat} {L : Nat → Nat → Int64} {x4 : Int32} {cells slots : Nat} (C : Cx l g p s m meth c cL_law 7 RL) (hX : va_X b Lx xs s s.heap) (hbl : b < s.heap.size) (hbA : ¬ gA g b) (hI : Inv σ R) (hIS : InvOk Inv) (hAg : Ag_50 N Inv) (hcs : cells + 4 ≤ 601024 ∧ slots + 24 ≤ 7293034) (kk : ∀ (σ' : SI) (R' : Nat → Nat → Nat) (L' : Nat → Nat → Int64) (H : Heap) (locs : List Loc) (ls : Array Slot), Inv σ' R' → S2 g s σ' R' L' H locs → lv_has ls 7 [(0, .ref b), (1, .ref (gb g + 1)), (2, .ref (gb g + 178)), (3, .ref (gb g + 194)), (4, .int x4)] → W p l e room_1 s m #[Value.ref b] below meth c H locs (cells + 4) (slots + 24) (lw_Z below #[Value.ref b] s) (F0 m 3423 ls [])) : ∀ (H : Heap) (locs : List Loc) (ls : Array Slot), S2 g s σ R L H locs → lv_has ls 7 [(0, .ref b), (1, .ref (gb g + 1)), (2, .ref (gb g + 178)), (3, .ref (gb g + 194)), (4, .int x4)] → W p l e room_1 s m #[Value.ref b] below meth c H locs (cells) (slots) (lw_Z below #[Value.ref b] s) (F0 m 2991 ls []) := by
  intro H locs ls S hl
  obtain ⟨hc1, hc2⟩ := hcs
  have hx := C.1
  have hb := C.2.1
  have hSh := hIS σ R hI
  obtain ⟨b1, σ1, b2, σ2, hm, hmod, hI2, hres⟩ := hAg σ R hI
  refine lv_aload_n hx hb dL_law_2991 rfl (lv_at hl 1 rfl) ?_
  refine x_callVI C S KX11 ok_1 (ok_X11_sirenCount (L := L) hm hSh ok_1) ⟨cd_X11_sirenCount, ni_RX11, ml_RL_334, in_X11_sirenCount, sl_X11_sirenCount⟩ ⟨by decide, by decide⟩ rfl ⟨by decide, by decide⟩ hl.1 rfl (Nat.le_of_ble_eq_true rfl) ⟨by show _ ≤ 601024; omega, by show _ ≤ 7293034; omega⟩ dL_law_2992 (fun H locs S => ?_)
  refine lv_aload_n hx hb dL_law_2995 rfl (lv_at hl 2 rfl) ?_
  refine x_callVI C S KX12 ok_178 (ok_X12_sirenCount (L := L) hmod hSh ok_178) ⟨cd_X12_sirenCount, ni_RX12, ml_RL_337, in_X12_sirenCount, sl_X12_sirenCount⟩ ⟨by decide, by decide⟩ rfl ⟨by decide, by decide⟩ hl.1 rfl (Nat.le_of_ble_eq_true rfl) ⟨by show _ ≤ 601024; omega, by show _ ≤ 7293034; omega⟩ dL_law_2996 (fun H locs S => ?_)
  refine lv_icmp_eq (tgt := 3423) hx hb dL_law_2999 (by decide) (fun c1 => ?_) (fun c1 => absurd hres c1)
  exact W.widen (k := cells + 4) (n := slots + 24) (by omega) (by omega) (kk σ2 R L H locs ls hI2 S hl)
set_option maxHeartbeats 4000000 in
set_option maxRecDepth 100000 in
theorem lc_51 {l : Launch} {g : GL} {p : Program} {e : Jvm.Env} {s : State} {m : MethodId} {below : List Frame} {meth : Method} {c : Code} {b Lx : Nat} {xs : Nat → Int32} {N : Nat} {Inv : SI → (Nat → Nat → Nat) → Prop} {σ : SI} {R : Nat → Nat → Nat} {L : Nat → Nat → Int64} {x4 : Int32} {cells slots : Nat} (C : Cx l g p s m meth c cL_law 7 RL) (hX : va_X b Lx xs s s.heap) (hbl : b < s.heap.size) (hbA : ¬ gA g b) (hI : Inv σ R) (hIS : InvOk Inv) (hAg : Ag_51 N Inv) (h1 : vp_in (x4 + 1) Lx) (hcs : cells + 4 ≤ 601024 ∧ slots + 24 ≤ 7293034) (kk : ∀ (σ' : SI) (R' : Nat → Nat → Nat) (L' : Nat → Nat → Int64) (H : Heap) (locs : List Loc) (ls : Array Slot), Inv σ' R' → S2 g s σ' R' L' H locs → lv_has ls 7 [(0, .ref b), (1, .ref (gb g + 1)), (2, .ref (gb g + 178)), (3, .ref (gb g + 194)), (4, .int x4)] → W p l e room_1 s m #[Value.ref b] below meth c H locs (cells + 4) (slots + 24) (lw_Z below #[Value.ref b] s) (F0 m 3423 ls [])) : ∀ (H : Heap) (locs : List Loc) (ls : Array Slot), S2 g s σ R L H locs → lv_has ls 7 [(0, .ref b), (1, .ref (gb g + 1)), (2, .ref (gb g + 178)), (3, .ref (gb g + 194)), (4, .int x4)] → W p l e room_1 s m #[Value.ref b] below meth c H locs (cells) (slots) (lw_Z below #[Value.ref b] s) (F0 m 3004 ls []) := by
  intro H locs ls S hl
  obtain ⟨hc1, hc2⟩ := hcs
  have hx := C.1
  have hb := C.2.1
  have hSh := hIS σ R hI
  obtain ⟨res, σ1, b2, σ2, hm, hmod, hI2, hret, hthr⟩ := hAg σ R (xs (x4 + 1).toNatClampNeg) hI
  cases res with
  | inl v =>
    obtain ⟨ht, rfl⟩ := hret v rfl
    refine lv_aload_n hx hb dL_law_3004 rfl (lv_at hl 1 rfl) ?_
    refine lv_aload_n hx hb dL_law_3005 rfl (lv_at hl 0 rfl) ?_
    refine lv_iload hx hb dL_law_3006 (lv_at hl 4 rfl) ?_
    refine lv_iconst (v := (1 : Int32)) hx hb dL_law_3008 (by decide) ?_
    refine lv_iadd hx hb dL_law_3009 ?_
    refine va_sld hx hb hX hbl hbA S.2 h1 dL_law_3010 ?_
    refine lv_aload_n hx hb dL_law_3011 rfl (lv_at hl 3 rfl) ?_
    refine v_callW C S (h_sirenMinute_ret (L := L) hm hSh ok_1 ok_194) ⟨cd_L_sirenMinute, ni_RL, ml_RL_338, st_L_sirenMinute⟩ ⟨by decide, by decide⟩ rfl ⟨by decide, by decide⟩ hl.1 rfl (Nat.le_of_ble_eq_true rfl) ⟨by show _ ≤ 601024; omega, by show _ ≤ 7293034; omega⟩ dL_law_3012 (fun w σ' H locs hp S => ?_)
    obtain ⟨rfl, rfl⟩ := hp
    have S : S2 g s σ1 R (fun a j => if a = 194 ∧ j = 0 then v.toInt64 else L a j) H locs := S
    obtain ⟨L1, hL1, hLv⟩ : ∃ L1 : Nat → Nat → Int64, (fun a j => if a = 194 ∧ j = 0 then v.toInt64 else L a j) = L1 ∧ L1 194 0 = v.toInt64 := ⟨_, rfl, if_pos ⟨rfl, rfl⟩⟩
    rw [hL1] at S
    refine lv_istore (lv' := [(5, .int 0), (0, .ref b), (1, .ref (gb g + 1)), (2, .ref (gb g + 178)), (3, .ref (gb g + 194)), (4, .int x4)]) hx hb dL_law_3015 hl (by decide) rfl (fun ls hl => ?_)
    refine lv_aload_n hx hb dL_law_3017 rfl (lv_at hl 3 rfl) ?_
    refine lv_aload_n hx hb dL_law_3018 rfl (lv_at hl 1 rfl) ?_
    refine lv_iload hx hb dL_law_3019 (lv_at hl 5 rfl) ?_
    refine lv_iconst (v := (1 : Int32)) hx hb dL_law_3021 (by decide) ?_
    refine lv_iadd hx hb dL_law_3022 ?_
    refine va_sld hx hb hX hbl hbA S.2 h1 dL_law_3023 ?_
    refine x_callVI C S KX12 ok_178 (ok_X12_sirenMinute (L := L1) hmod hSh ok_178) ⟨cd_X12_sirenMinute, ni_RX12, ml_RL_340, in_X12_sirenMinute, sl_X12_sirenMinute⟩ ⟨by decide, by decide⟩ rfl ⟨by decide, by decide⟩ hl.1 rfl (Nat.le_of_ble_eq_true rfl) ⟨by show _ ≤ 601024; omega, by show _ ≤ 7293034; omega⟩ dL_law_3024 (fun H locs S => ?_)
    refine lv_istore (lv' := [(6, .int v), (5, .int 0), (0, .ref b), (1, .ref (gb g + 1)), (2, .ref (gb g + 178)), (3, .ref (gb g + 194)), (4, .int x4)]) hx hb dL_law_3027 hl (by decide) rfl (fun ls hl => ?_)
    refine lv_aload_n hx hb dL_law_3029 rfl (lv_at hl 4 rfl) ?_
    refine x_callVI C S KX12 ok_178 (ok_X12_thrown (L := L1) (thr_eq N R σ2 178) hSh ok_178) ⟨cd_X12_thrown, ni_RX12, ml_RL_178, in_X12_thrown, sl_X12_thrown⟩ ⟨by decide, by decide⟩ rfl ⟨by decide, by decide⟩ hl.1 rfl (Nat.le_of_ble_eq_true rfl) ⟨by show _ ≤ 601024; omega, by show _ ≤ 7293034; omega⟩ dL_law_3030 (fun H locs S => ?_)
    refine lv_iload hx hb dL_law_3033 (lv_at hl 1 rfl) ?_
    refine lv_icmp_eq (tgt := 3040) hx hb dL_law_3035 (by decide) (fun c1 => ?_) (fun c1 => absurd ht c1)
    refine lv_iload hx hb dL_law_3040 (lv_at hl 1 rfl) ?_
    refine lv_if_ne (tgt := 3057) hx hb dL_law_3042 (by decide) (fun c2 => absurd rfl c2) (fun c2 => ?_)
    refine lv_aload_n hx hb dL_law_3045 rfl (lv_at hl 5 rfl) ?_
    refine lv_iconst (v := (0 : Int32)) hx hb dL_law_3046 (by decide) ?_
    refine x_lald C S ok_194 dL_law_3047 ?_
    refine lv_iload hx hb dL_law_3048 (lv_at hl 0 rfl) ?_
    refine lv_i2l hx hb dL_law_3050 rfl ?_
    refine W.lcmp hx hb dL_law_3051 ?_
    refine lv_if_eq (tgt := 3057) hx hb dL_law_3052 (by decide) (fun c4 => ?_) (fun c4 => absurd (by show lg_cmp (L1 194 0) _ = 0; rw [hLv]; exact lgc_self _) c4)
    refine lv_goto (tgt := 3423) hx hb dL_law_3057 (by decide) ?_
    exact W.widen (k := cells + 4) (n := slots + 24) (by omega) (by omega) (kk σ2 R L1 H locs ls hI2 S (lv_sub hl [2, 3, 4, 5, 6] rfl))
  | inr q =>
    obtain ⟨rfl, ht⟩ := hthr q rfl
    refine lv_aload_n hx hb dL_law_3004 rfl (lv_at hl 1 rfl) ?_
    refine lv_aload_n hx hb dL_law_3005 rfl (lv_at hl 0 rfl) ?_
    refine lv_iload hx hb dL_law_3006 (lv_at hl 4 rfl) ?_
    refine lv_iconst (v := (1 : Int32)) hx hb dL_law_3008 (by decide) ?_
    refine lv_iadd hx hb dL_law_3009 ?_
    refine va_sld hx hb hX hbl hbA S.2 h1 dL_law_3010 ?_
    refine lv_aload_n hx hb dL_law_3011 rfl (lv_at hl 3 rfl) ?_
    refine v_callW C S (h_sirenMinute_x1 (L := L) hm hSh ok_1 ok_194) ⟨cd_L_sirenMinute, ni_RL, ml_RL_338, st_L_sirenMinute⟩ ⟨by decide, by decide⟩ rfl ⟨by decide, by decide⟩ hl.1 rfl (Nat.le_of_ble_eq_true rfl) ⟨by show _ ≤ 601024; omega, by show _ ≤ 7293034; omega⟩ dL_law_3012 (fun w σ' H locs hp S => ?_)
    obtain ⟨rfl, rfl⟩ := hp
    have S : S2 g s σ1 R L H locs := S
    refine lv_istore (lv' := [(5, .int 1), (0, .ref b), (1, .ref (gb g + 1)), (2, .ref (gb g + 178)), (3, .ref (gb g + 194)), (4, .int x4)]) hx hb dL_law_3015 hl (by decide) rfl (fun ls hl => ?_)
    refine lv_aload_n hx hb dL_law_3017 rfl (lv_at hl 3 rfl) ?_
    refine lv_aload_n hx hb dL_law_3018 rfl (lv_at hl 1 rfl) ?_
    refine lv_iload hx hb dL_law_3019 (lv_at hl 5 rfl) ?_
    refine lv_iconst (v := (1 : Int32)) hx hb dL_law_3021 (by decide) ?_
    refine lv_iadd hx hb dL_law_3022 ?_
    refine va_sld hx hb hX hbl hbA S.2 h1 dL_law_3023 ?_
    refine x_callVI C S KX12 ok_178 (ok_X12_sirenMinute (L := L) hmod hSh ok_178) ⟨cd_X12_sirenMinute, ni_RX12, ml_RL_340, in_X12_sirenMinute, sl_X12_sirenMinute⟩ ⟨by decide, by decide⟩ rfl ⟨by decide, by decide⟩ hl.1 rfl (Nat.le_of_ble_eq_true rfl) ⟨by show _ ≤ 601024; omega, by show _ ≤ 7293034; omega⟩ dL_law_3024 (fun H locs S => ?_)
    refine lv_istore (lv' := [(6, .int b2), (5, .int 1), (0, .ref b), (1, .ref (gb g + 1)), (2, .ref (gb g + 178)), (3, .ref (gb g + 194)), (4, .int x4)]) hx hb dL_law_3027 hl (by decide) rfl (fun ls hl => ?_)
    refine lv_aload_n hx hb dL_law_3029 rfl (lv_at hl 4 rfl) ?_
    refine x_callVI C S KX12 ok_178 (ok_X12_thrown (L := L) (thr_eq N R σ2 178) hSh ok_178) ⟨cd_X12_thrown, ni_RX12, ml_RL_178, in_X12_thrown, sl_X12_thrown⟩ ⟨by decide, by decide⟩ rfl ⟨by decide, by decide⟩ hl.1 rfl (Nat.le_of_ble_eq_true rfl) ⟨by show _ ≤ 601024; omega, by show _ ≤ 7293034; omega⟩ dL_law_3030 (fun H locs S => ?_)
    refine lv_iload hx hb dL_law_3033 (lv_at hl 1 rfl) ?_
    refine lv_icmp_eq (tgt := 3040) hx hb dL_law_3035 (by decide) (fun c1 => ?_) (fun c1 => absurd ht c1)
    refine lv_iload hx hb dL_law_3040 (lv_at hl 1 rfl) ?_
    refine lv_if_ne (tgt := 3057) hx hb dL_law_3042 (by decide) (fun c2 => ?_) (fun c2 => absurd c2 (by decide))
    refine lv_goto (tgt := 3423) hx hb dL_law_3057 (by decide) ?_
    exact W.widen (k := cells + 4) (n := slots + 24) (by omega) (by omega) (kk σ2 R L H locs ls hI2 S (lv_sub hl [2, 3, 4, 5, 6] rfl))
set_option maxHeartbeats 4000000 in
set_option maxRecDepth 100000 in
theorem lc_52 {l : Launch} {g : GL} {p : Program} {e : Jvm.Env} {s : State} {m : MethodId} {below : List Frame} {meth : Method} {c : Code} {b Lx : Nat} {xs : Nat → Int32} {N : Nat} {Inv : SI → (Nat → Nat → Nat) → Prop} {σ : SI} {R : Nat → Nat → Nat} {L : Nat → Nat → Int64} {x4 : Int32} {cells slots : Nat} (C : Cx l g p s m meth c cL_law 7 RL) (hX : va_X b Lx xs s s.heap) (hbl : b < s.heap.size) (hbA : ¬ gA g b) (hI : Inv σ R) (hIS : InvOk Inv) (hAg : Ag_52 N Inv) (h1 : vp_in (x4 + 1) Lx) (hcs : cells + 4 ≤ 601024 ∧ slots + 24 ≤ 7293034) (kk : ∀ (σ' : SI) (R' : Nat → Nat → Nat) (L' : Nat → Nat → Int64) (H : Heap) (locs : List Loc) (ls : Array Slot), Inv σ' R' → S2 g s σ' R' L' H locs → lv_has ls 7 [(0, .ref b), (1, .ref (gb g + 1)), (2, .ref (gb g + 178)), (3, .ref (gb g + 194)), (4, .int x4)] → W p l e room_1 s m #[Value.ref b] below meth c H locs (cells + 4) (slots + 24) (lw_Z below #[Value.ref b] s) (F0 m 3423 ls [])) : ∀ (H : Heap) (locs : List Loc) (ls : Array Slot), S2 g s σ R L H locs → lv_has ls 7 [(0, .ref b), (1, .ref (gb g + 1)), (2, .ref (gb g + 178)), (3, .ref (gb g + 194)), (4, .int x4)] → W p l e room_1 s m #[Value.ref b] below meth c H locs (cells) (slots) (lw_Z below #[Value.ref b] s) (F0 m 3060 ls []) := by
  intro H locs ls S hl
  obtain ⟨hc1, hc2⟩ := hcs
  have hx := C.1
  have hb := C.2.1
  have hSh := hIS σ R hI
  obtain ⟨res, σ1, b2, σ2, hm, hmod, hI2, hret, hthr⟩ := hAg σ R (xs (x4 + 1).toNatClampNeg) hI
  cases res with
  | inl v =>
    obtain ⟨ht, rfl⟩ := hret v rfl
    refine lv_aload_n hx hb dL_law_3060 rfl (lv_at hl 1 rfl) ?_
    refine lv_aload_n hx hb dL_law_3061 rfl (lv_at hl 0 rfl) ?_
    refine lv_iload hx hb dL_law_3062 (lv_at hl 4 rfl) ?_
    refine lv_iconst (v := (1 : Int32)) hx hb dL_law_3064 (by decide) ?_
    refine lv_iadd hx hb dL_law_3065 ?_
    refine va_sld hx hb hX hbl hbA S.2 h1 dL_law_3066 ?_
    refine lv_aload_n hx hb dL_law_3067 rfl (lv_at hl 3 rfl) ?_
    refine v_callW C S (h_sirenKind_ret (L := L) hm hSh ok_1 ok_194) ⟨cd_L_sirenKind, ni_RL, ml_RL_341, st_L_sirenKind⟩ ⟨by decide, by decide⟩ rfl ⟨by decide, by decide⟩ hl.1 rfl (Nat.le_of_ble_eq_true rfl) ⟨by show _ ≤ 601024; omega, by show _ ≤ 7293034; omega⟩ dL_law_3068 (fun w σ' H locs hp S => ?_)
    obtain ⟨rfl, rfl⟩ := hp
    have S : S2 g s σ1 R (fun a j => if a = 194 ∧ j = 0 then v.toInt64 else L a j) H locs := S
    obtain ⟨L1, hL1, hLv⟩ : ∃ L1 : Nat → Nat → Int64, (fun a j => if a = 194 ∧ j = 0 then v.toInt64 else L a j) = L1 ∧ L1 194 0 = v.toInt64 := ⟨_, rfl, if_pos ⟨rfl, rfl⟩⟩
    rw [hL1] at S
    refine lv_istore (lv' := [(5, .int 0), (0, .ref b), (1, .ref (gb g + 1)), (2, .ref (gb g + 178)), (3, .ref (gb g + 194)), (4, .int x4)]) hx hb dL_law_3071 hl (by decide) rfl (fun ls hl => ?_)
    refine lv_aload_n hx hb dL_law_3073 rfl (lv_at hl 3 rfl) ?_
    refine lv_aload_n hx hb dL_law_3074 rfl (lv_at hl 1 rfl) ?_
    refine lv_iload hx hb dL_law_3075 (lv_at hl 5 rfl) ?_
    refine lv_iconst (v := (1 : Int32)) hx hb dL_law_3077 (by decide) ?_
    refine lv_iadd hx hb dL_law_3078 ?_
    refine va_sld hx hb hX hbl hbA S.2 h1 dL_law_3079 ?_
    refine x_callVI C S KX12 ok_178 (ok_X12_sirenKind (L := L1) hmod hSh ok_178) ⟨cd_X12_sirenKind, ni_RX12, ml_RL_343, in_X12_sirenKind, sl_X12_sirenKind⟩ ⟨by decide, by decide⟩ rfl ⟨by decide, by decide⟩ hl.1 rfl (Nat.le_of_ble_eq_true rfl) ⟨by show _ ≤ 601024; omega, by show _ ≤ 7293034; omega⟩ dL_law_3080 (fun H locs S => ?_)
    refine lv_istore (lv' := [(6, .int v), (5, .int 0), (0, .ref b), (1, .ref (gb g + 1)), (2, .ref (gb g + 178)), (3, .ref (gb g + 194)), (4, .int x4)]) hx hb dL_law_3083 hl (by decide) rfl (fun ls hl => ?_)
    refine lv_aload_n hx hb dL_law_3085 rfl (lv_at hl 4 rfl) ?_
    refine x_callVI C S KX12 ok_178 (ok_X12_thrown (L := L1) (thr_eq N R σ2 178) hSh ok_178) ⟨cd_X12_thrown, ni_RX12, ml_RL_178, in_X12_thrown, sl_X12_thrown⟩ ⟨by decide, by decide⟩ rfl ⟨by decide, by decide⟩ hl.1 rfl (Nat.le_of_ble_eq_true rfl) ⟨by show _ ≤ 601024; omega, by show _ ≤ 7293034; omega⟩ dL_law_3086 (fun H locs S => ?_)
    refine lv_iload hx hb dL_law_3089 (lv_at hl 1 rfl) ?_
    refine lv_icmp_eq (tgt := 3096) hx hb dL_law_3091 (by decide) (fun c1 => ?_) (fun c1 => absurd ht c1)
    refine lv_iload hx hb dL_law_3096 (lv_at hl 1 rfl) ?_
    refine lv_if_ne (tgt := 3113) hx hb dL_law_3098 (by decide) (fun c2 => absurd rfl c2) (fun c2 => ?_)
    refine lv_aload_n hx hb dL_law_3101 rfl (lv_at hl 5 rfl) ?_
    refine lv_iconst (v := (0 : Int32)) hx hb dL_law_3102 (by decide) ?_
    refine x_lald C S ok_194 dL_law_3103 ?_
    refine lv_iload hx hb dL_law_3104 (lv_at hl 0 rfl) ?_
    refine lv_i2l hx hb dL_law_3106 rfl ?_
    refine W.lcmp hx hb dL_law_3107 ?_
    refine lv_if_eq (tgt := 3113) hx hb dL_law_3108 (by decide) (fun c4 => ?_) (fun c4 => absurd (by show lg_cmp (L1 194 0) _ = 0; rw [hLv]; exact lgc_self _) c4)
    refine lv_goto (tgt := 3423) hx hb dL_law_3113 (by decide) ?_
    exact W.widen (k := cells + 4) (n := slots + 24) (by omega) (by omega) (kk σ2 R L1 H locs ls hI2 S (lv_sub hl [2, 3, 4, 5, 6] rfl))
  | inr q =>
    obtain ⟨rfl, ht⟩ := hthr q rfl
    refine lv_aload_n hx hb dL_law_3060 rfl (lv_at hl 1 rfl) ?_
    refine lv_aload_n hx hb dL_law_3061 rfl (lv_at hl 0 rfl) ?_
    refine lv_iload hx hb dL_law_3062 (lv_at hl 4 rfl) ?_
    refine lv_iconst (v := (1 : Int32)) hx hb dL_law_3064 (by decide) ?_
    refine lv_iadd hx hb dL_law_3065 ?_
    refine va_sld hx hb hX hbl hbA S.2 h1 dL_law_3066 ?_
    refine lv_aload_n hx hb dL_law_3067 rfl (lv_at hl 3 rfl) ?_
    refine v_callW C S (h_sirenKind_x1 (L := L) hm hSh ok_1 ok_194) ⟨cd_L_sirenKind, ni_RL, ml_RL_341, st_L_sirenKind⟩ ⟨by decide, by decide⟩ rfl ⟨by decide, by decide⟩ hl.1 rfl (Nat.le_of_ble_eq_true rfl) ⟨by show _ ≤ 601024; omega, by show _ ≤ 7293034; omega⟩ dL_law_3068 (fun w σ' H locs hp S => ?_)
    obtain ⟨rfl, rfl⟩ := hp
    have S : S2 g s σ1 R L H locs := S
    refine lv_istore (lv' := [(5, .int 1), (0, .ref b), (1, .ref (gb g + 1)), (2, .ref (gb g + 178)), (3, .ref (gb g + 194)), (4, .int x4)]) hx hb dL_law_3071 hl (by decide) rfl (fun ls hl => ?_)
    refine lv_aload_n hx hb dL_law_3073 rfl (lv_at hl 3 rfl) ?_
    refine lv_aload_n hx hb dL_law_3074 rfl (lv_at hl 1 rfl) ?_
    refine lv_iload hx hb dL_law_3075 (lv_at hl 5 rfl) ?_
    refine lv_iconst (v := (1 : Int32)) hx hb dL_law_3077 (by decide) ?_
    refine lv_iadd hx hb dL_law_3078 ?_
    refine va_sld hx hb hX hbl hbA S.2 h1 dL_law_3079 ?_
    refine x_callVI C S KX12 ok_178 (ok_X12_sirenKind (L := L) hmod hSh ok_178) ⟨cd_X12_sirenKind, ni_RX12, ml_RL_343, in_X12_sirenKind, sl_X12_sirenKind⟩ ⟨by decide, by decide⟩ rfl ⟨by decide, by decide⟩ hl.1 rfl (Nat.le_of_ble_eq_true rfl) ⟨by show _ ≤ 601024; omega, by show _ ≤ 7293034; omega⟩ dL_law_3080 (fun H locs S => ?_)
    refine lv_istore (lv' := [(6, .int b2), (5, .int 1), (0, .ref b), (1, .ref (gb g + 1)), (2, .ref (gb g + 178)), (3, .ref (gb g + 194)), (4, .int x4)]) hx hb dL_law_3083 hl (by decide) rfl (fun ls hl => ?_)
    refine lv_aload_n hx hb dL_law_3085 rfl (lv_at hl 4 rfl) ?_
    refine x_callVI C S KX12 ok_178 (ok_X12_thrown (L := L) (thr_eq N R σ2 178) hSh ok_178) ⟨cd_X12_thrown, ni_RX12, ml_RL_178, in_X12_thrown, sl_X12_thrown⟩ ⟨by decide, by decide⟩ rfl ⟨by decide, by decide⟩ hl.1 rfl (Nat.le_of_ble_eq_true rfl) ⟨by show _ ≤ 601024; omega, by show _ ≤ 7293034; omega⟩ dL_law_3086 (fun H locs S => ?_)
    refine lv_iload hx hb dL_law_3089 (lv_at hl 1 rfl) ?_
    refine lv_icmp_eq (tgt := 3096) hx hb dL_law_3091 (by decide) (fun c1 => ?_) (fun c1 => absurd ht c1)
    refine lv_iload hx hb dL_law_3096 (lv_at hl 1 rfl) ?_
    refine lv_if_ne (tgt := 3113) hx hb dL_law_3098 (by decide) (fun c2 => ?_) (fun c2 => absurd c2 (by decide))
    refine lv_goto (tgt := 3423) hx hb dL_law_3113 (by decide) ?_
    exact W.widen (k := cells + 4) (n := slots + 24) (by omega) (by omega) (kk σ2 R L H locs ls hI2 S (lv_sub hl [2, 3, 4, 5, 6] rfl))
set_option maxHeartbeats 4000000 in
set_option maxRecDepth 100000 in
theorem lc_53 {l : Launch} {g : GL} {p : Program} {e : Jvm.Env} {s : State} {m : MethodId} {below : List Frame} {meth : Method} {c : Code} {b Lx : Nat} {xs : Nat → Int32} {N : Nat} {Inv : SI → (Nat → Nat → Nat) → Prop} {σ : SI} {R : Nat → Nat → Nat} {L : Nat → Nat → Int64} {x4 : Int32} {cells slots : Nat} (C : Cx l g p s m meth c cL_law 7 RL) (hX : va_X b Lx xs s s.heap) (hbl : b < s.heap.size) (hbA : ¬ gA g b) (hI : Inv σ R) (hIS : InvOk Inv) (hAg : Ag_53 N Inv) (h1 : vp_in (x4 + 1) Lx) (hcs : cells + 4 ≤ 601024 ∧ slots + 24 ≤ 7293034) (kk : ∀ (σ' : SI) (R' : Nat → Nat → Nat) (L' : Nat → Nat → Int64) (H : Heap) (locs : List Loc) (ls : Array Slot), Inv σ' R' → S2 g s σ' R' L' H locs → lv_has ls 7 [(0, .ref b), (1, .ref (gb g + 1)), (2, .ref (gb g + 178)), (3, .ref (gb g + 194)), (4, .int x4)] → W p l e room_1 s m #[Value.ref b] below meth c H locs (cells + 4) (slots + 24) (lw_Z below #[Value.ref b] s) (F0 m 3423 ls [])) : ∀ (H : Heap) (locs : List Loc) (ls : Array Slot), S2 g s σ R L H locs → lv_has ls 7 [(0, .ref b), (1, .ref (gb g + 1)), (2, .ref (gb g + 178)), (3, .ref (gb g + 194)), (4, .int x4)] → W p l e room_1 s m #[Value.ref b] below meth c H locs (cells) (slots) (lw_Z below #[Value.ref b] s) (F0 m 3116 ls []) := by
  intro H locs ls S hl
  obtain ⟨hc1, hc2⟩ := hcs
  have hx := C.1
  have hb := C.2.1
  have hSh := hIS σ R hI
  obtain ⟨res, σ1, b2, σ2, hm, hmod, hI2, hret, hthr⟩ := hAg σ R (xs (x4 + 1).toNatClampNeg) hI
  cases res with
  | inl v =>
    obtain ⟨ht, rfl⟩ := hret v rfl
    refine lv_aload_n hx hb dL_law_3116 rfl (lv_at hl 1 rfl) ?_
    refine lv_aload_n hx hb dL_law_3117 rfl (lv_at hl 0 rfl) ?_
    refine lv_iload hx hb dL_law_3118 (lv_at hl 4 rfl) ?_
    refine lv_iconst (v := (1 : Int32)) hx hb dL_law_3120 (by decide) ?_
    refine lv_iadd hx hb dL_law_3121 ?_
    refine va_sld hx hb hX hbl hbA S.2 h1 dL_law_3122 ?_
    refine lv_aload_n hx hb dL_law_3123 rfl (lv_at hl 3 rfl) ?_
    refine v_callW C S (h_sirenBlast_ret (L := L) hm hSh ok_1 ok_194) ⟨cd_L_sirenBlast, ni_RL, ml_RL_344, st_L_sirenBlast⟩ ⟨by decide, by decide⟩ rfl ⟨by decide, by decide⟩ hl.1 rfl (Nat.le_of_ble_eq_true rfl) ⟨by show _ ≤ 601024; omega, by show _ ≤ 7293034; omega⟩ dL_law_3124 (fun w σ' H locs hp S => ?_)
    obtain ⟨rfl, rfl⟩ := hp
    have S : S2 g s σ1 R (fun a j => if a = 194 ∧ j = 0 then v.toInt64 else L a j) H locs := S
    obtain ⟨L1, hL1, hLv⟩ : ∃ L1 : Nat → Nat → Int64, (fun a j => if a = 194 ∧ j = 0 then v.toInt64 else L a j) = L1 ∧ L1 194 0 = v.toInt64 := ⟨_, rfl, if_pos ⟨rfl, rfl⟩⟩
    rw [hL1] at S
    refine lv_istore (lv' := [(5, .int 0), (0, .ref b), (1, .ref (gb g + 1)), (2, .ref (gb g + 178)), (3, .ref (gb g + 194)), (4, .int x4)]) hx hb dL_law_3127 hl (by decide) rfl (fun ls hl => ?_)
    refine lv_aload_n hx hb dL_law_3129 rfl (lv_at hl 3 rfl) ?_
    refine lv_aload_n hx hb dL_law_3130 rfl (lv_at hl 1 rfl) ?_
    refine lv_iload hx hb dL_law_3131 (lv_at hl 5 rfl) ?_
    refine lv_iconst (v := (1 : Int32)) hx hb dL_law_3133 (by decide) ?_
    refine lv_iadd hx hb dL_law_3134 ?_
    refine va_sld hx hb hX hbl hbA S.2 h1 dL_law_3135 ?_
    refine x_callVI C S KX12 ok_178 (ok_X12_sirenBlast (L := L1) hmod hSh ok_178) ⟨cd_X12_sirenBlast, ni_RX12, ml_RL_346, in_X12_sirenBlast, sl_X12_sirenBlast⟩ ⟨by decide, by decide⟩ rfl ⟨by decide, by decide⟩ hl.1 rfl (Nat.le_of_ble_eq_true rfl) ⟨by show _ ≤ 601024; omega, by show _ ≤ 7293034; omega⟩ dL_law_3136 (fun H locs S => ?_)
    refine lv_istore (lv' := [(6, .int v), (5, .int 0), (0, .ref b), (1, .ref (gb g + 1)), (2, .ref (gb g + 178)), (3, .ref (gb g + 194)), (4, .int x4)]) hx hb dL_law_3139 hl (by decide) rfl (fun ls hl => ?_)
    refine lv_aload_n hx hb dL_law_3141 rfl (lv_at hl 4 rfl) ?_
    refine x_callVI C S KX12 ok_178 (ok_X12_thrown (L := L1) (thr_eq N R σ2 178) hSh ok_178) ⟨cd_X12_thrown, ni_RX12, ml_RL_178, in_X12_thrown, sl_X12_thrown⟩ ⟨by decide, by decide⟩ rfl ⟨by decide, by decide⟩ hl.1 rfl (Nat.le_of_ble_eq_true rfl) ⟨by show _ ≤ 601024; omega, by show _ ≤ 7293034; omega⟩ dL_law_3142 (fun H locs S => ?_)
    refine lv_iload hx hb dL_law_3145 (lv_at hl 1 rfl) ?_
    refine lv_icmp_eq (tgt := 3152) hx hb dL_law_3147 (by decide) (fun c1 => ?_) (fun c1 => absurd ht c1)
    refine lv_iload hx hb dL_law_3152 (lv_at hl 1 rfl) ?_
    refine lv_if_ne (tgt := 3169) hx hb dL_law_3154 (by decide) (fun c2 => absurd rfl c2) (fun c2 => ?_)
    refine lv_aload_n hx hb dL_law_3157 rfl (lv_at hl 5 rfl) ?_
    refine lv_iconst (v := (0 : Int32)) hx hb dL_law_3158 (by decide) ?_
    refine x_lald C S ok_194 dL_law_3159 ?_
    refine lv_iload hx hb dL_law_3160 (lv_at hl 0 rfl) ?_
    refine lv_i2l hx hb dL_law_3162 rfl ?_
    refine W.lcmp hx hb dL_law_3163 ?_
    refine lv_if_eq (tgt := 3169) hx hb dL_law_3164 (by decide) (fun c4 => ?_) (fun c4 => absurd (by show lg_cmp (L1 194 0) _ = 0; rw [hLv]; exact lgc_self _) c4)
    refine lv_goto (tgt := 3423) hx hb dL_law_3169 (by decide) ?_
    exact W.widen (k := cells + 4) (n := slots + 24) (by omega) (by omega) (kk σ2 R L1 H locs ls hI2 S (lv_sub hl [2, 3, 4, 5, 6] rfl))
  | inr q =>
    obtain ⟨rfl, ht⟩ := hthr q rfl
    refine lv_aload_n hx hb dL_law_3116 rfl (lv_at hl 1 rfl) ?_
    refine lv_aload_n hx hb dL_law_3117 rfl (lv_at hl 0 rfl) ?_
    refine lv_iload hx hb dL_law_3118 (lv_at hl 4 rfl) ?_
    refine lv_iconst (v := (1 : Int32)) hx hb dL_law_3120 (by decide) ?_
    refine lv_iadd hx hb dL_law_3121 ?_
    refine va_sld hx hb hX hbl hbA S.2 h1 dL_law_3122 ?_
    refine lv_aload_n hx hb dL_law_3123 rfl (lv_at hl 3 rfl) ?_
    refine v_callW C S (h_sirenBlast_x1 (L := L) hm hSh ok_1 ok_194) ⟨cd_L_sirenBlast, ni_RL, ml_RL_344, st_L_sirenBlast⟩ ⟨by decide, by decide⟩ rfl ⟨by decide, by decide⟩ hl.1 rfl (Nat.le_of_ble_eq_true rfl) ⟨by show _ ≤ 601024; omega, by show _ ≤ 7293034; omega⟩ dL_law_3124 (fun w σ' H locs hp S => ?_)
    obtain ⟨rfl, rfl⟩ := hp
    have S : S2 g s σ1 R L H locs := S
    refine lv_istore (lv' := [(5, .int 1), (0, .ref b), (1, .ref (gb g + 1)), (2, .ref (gb g + 178)), (3, .ref (gb g + 194)), (4, .int x4)]) hx hb dL_law_3127 hl (by decide) rfl (fun ls hl => ?_)
    refine lv_aload_n hx hb dL_law_3129 rfl (lv_at hl 3 rfl) ?_
    refine lv_aload_n hx hb dL_law_3130 rfl (lv_at hl 1 rfl) ?_
    refine lv_iload hx hb dL_law_3131 (lv_at hl 5 rfl) ?_
    refine lv_iconst (v := (1 : Int32)) hx hb dL_law_3133 (by decide) ?_
    refine lv_iadd hx hb dL_law_3134 ?_
    refine va_sld hx hb hX hbl hbA S.2 h1 dL_law_3135 ?_
    refine x_callVI C S KX12 ok_178 (ok_X12_sirenBlast (L := L) hmod hSh ok_178) ⟨cd_X12_sirenBlast, ni_RX12, ml_RL_346, in_X12_sirenBlast, sl_X12_sirenBlast⟩ ⟨by decide, by decide⟩ rfl ⟨by decide, by decide⟩ hl.1 rfl (Nat.le_of_ble_eq_true rfl) ⟨by show _ ≤ 601024; omega, by show _ ≤ 7293034; omega⟩ dL_law_3136 (fun H locs S => ?_)
    refine lv_istore (lv' := [(6, .int b2), (5, .int 1), (0, .ref b), (1, .ref (gb g + 1)), (2, .ref (gb g + 178)), (3, .ref (gb g + 194)), (4, .int x4)]) hx hb dL_law_3139 hl (by decide) rfl (fun ls hl => ?_)
    refine lv_aload_n hx hb dL_law_3141 rfl (lv_at hl 4 rfl) ?_
    refine x_callVI C S KX12 ok_178 (ok_X12_thrown (L := L) (thr_eq N R σ2 178) hSh ok_178) ⟨cd_X12_thrown, ni_RX12, ml_RL_178, in_X12_thrown, sl_X12_thrown⟩ ⟨by decide, by decide⟩ rfl ⟨by decide, by decide⟩ hl.1 rfl (Nat.le_of_ble_eq_true rfl) ⟨by show _ ≤ 601024; omega, by show _ ≤ 7293034; omega⟩ dL_law_3142 (fun H locs S => ?_)
    refine lv_iload hx hb dL_law_3145 (lv_at hl 1 rfl) ?_
    refine lv_icmp_eq (tgt := 3152) hx hb dL_law_3147 (by decide) (fun c1 => ?_) (fun c1 => absurd ht c1)
    refine lv_iload hx hb dL_law_3152 (lv_at hl 1 rfl) ?_
    refine lv_if_ne (tgt := 3169) hx hb dL_law_3154 (by decide) (fun c2 => ?_) (fun c2 => absurd c2 (by decide))
    refine lv_goto (tgt := 3423) hx hb dL_law_3169 (by decide) ?_
    exact W.widen (k := cells + 4) (n := slots + 24) (by omega) (by omega) (kk σ2 R L H locs ls hI2 S (lv_sub hl [2, 3, 4, 5, 6] rfl))
set_option maxHeartbeats 4000000 in
set_option maxRecDepth 100000 in
theorem lc_54 {l : Launch} {g : GL} {p : Program} {e : Jvm.Env} {s : State} {m : MethodId} {below : List Frame} {meth : Method} {c : Code} {b Lx : Nat} {xs : Nat → Int32} {N : Nat} {Inv : SI → (Nat → Nat → Nat) → Prop} {σ : SI} {R : Nat → Nat → Nat} {L : Nat → Nat → Int64} {x4 : Int32} {cells slots : Nat} (C : Cx l g p s m meth c cL_law 7 RL) (hX : va_X b Lx xs s s.heap) (hbl : b < s.heap.size) (hbA : ¬ gA g b) (hI : Inv σ R) (hIS : InvOk Inv) (hAg : Ag_54 N Inv) (hcs : cells + 4 ≤ 601024 ∧ slots + 24 ≤ 7293034) (kk : ∀ (σ' : SI) (R' : Nat → Nat → Nat) (L' : Nat → Nat → Int64) (H : Heap) (locs : List Loc) (ls : Array Slot), Inv σ' R' → S2 g s σ' R' L' H locs → lv_has ls 7 [(0, .ref b), (1, .ref (gb g + 1)), (2, .ref (gb g + 178)), (3, .ref (gb g + 194)), (4, .int x4)] → W p l e room_1 s m #[Value.ref b] below meth c H locs (cells + 4) (slots + 24) (lw_Z below #[Value.ref b] s) (F0 m 3423 ls [])) : ∀ (H : Heap) (locs : List Loc) (ls : Array Slot), S2 g s σ R L H locs → lv_has ls 7 [(0, .ref b), (1, .ref (gb g + 1)), (2, .ref (gb g + 178)), (3, .ref (gb g + 194)), (4, .int x4)] → W p l e room_1 s m #[Value.ref b] below meth c H locs (cells) (slots) (lw_Z below #[Value.ref b] s) (F0 m 3172 ls []) := by
  intro H locs ls S hl
  obtain ⟨hc1, hc2⟩ := hcs
  have hx := C.1
  have hb := C.2.1
  have hSh := hIS σ R hI
  obtain ⟨res, σ1, b2, σ2, hm, hmod, hI2, hret, hthr⟩ := hAg σ R hI
  cases res with
  | inl v =>
    obtain ⟨ht, rfl⟩ := hret v rfl
    refine lv_aload_n hx hb dL_law_3172 rfl (lv_at hl 1 rfl) ?_
    refine lv_aload_n hx hb dL_law_3173 rfl (lv_at hl 3 rfl) ?_
    refine v_callW C S (h_planLength_ret (L := L) hm hSh ok_1 ok_194) ⟨cd_L_planLength, ni_RL, ml_RL_347, st_L_planLength⟩ ⟨by decide, by decide⟩ rfl ⟨by decide, by decide⟩ hl.1 rfl (Nat.le_of_ble_eq_true rfl) ⟨by show _ ≤ 601024; omega, by show _ ≤ 7293034; omega⟩ dL_law_3174 (fun w σ' H locs hp S => ?_)
    obtain ⟨rfl, rfl⟩ := hp
    have S : S2 g s σ1 R (fun a j => if a = 194 ∧ j = 0 then v.toInt64 else L a j) H locs := S
    obtain ⟨L1, hL1, hLv⟩ : ∃ L1 : Nat → Nat → Int64, (fun a j => if a = 194 ∧ j = 0 then v.toInt64 else L a j) = L1 ∧ L1 194 0 = v.toInt64 := ⟨_, rfl, if_pos ⟨rfl, rfl⟩⟩
    rw [hL1] at S
    refine lv_istore (lv' := [(5, .int 0), (0, .ref b), (1, .ref (gb g + 1)), (2, .ref (gb g + 178)), (3, .ref (gb g + 194)), (4, .int x4)]) hx hb dL_law_3177 hl (by decide) rfl (fun ls hl => ?_)
    refine lv_aload_n hx hb dL_law_3179 rfl (lv_at hl 3 rfl) ?_
    refine x_callVI C S KX12 ok_178 (ok_X12_planLength (L := L1) hmod hSh ok_178) ⟨cd_X12_planLength, ni_RX12, ml_RL_349, in_X12_planLength, sl_X12_planLength⟩ ⟨by decide, by decide⟩ rfl ⟨by decide, by decide⟩ hl.1 rfl (Nat.le_of_ble_eq_true rfl) ⟨by show _ ≤ 601024; omega, by show _ ≤ 7293034; omega⟩ dL_law_3180 (fun H locs S => ?_)
    refine lv_istore (lv' := [(6, .int v), (5, .int 0), (0, .ref b), (1, .ref (gb g + 1)), (2, .ref (gb g + 178)), (3, .ref (gb g + 194)), (4, .int x4)]) hx hb dL_law_3183 hl (by decide) rfl (fun ls hl => ?_)
    refine lv_aload_n hx hb dL_law_3185 rfl (lv_at hl 4 rfl) ?_
    refine x_callVI C S KX12 ok_178 (ok_X12_thrown (L := L1) (thr_eq N R σ2 178) hSh ok_178) ⟨cd_X12_thrown, ni_RX12, ml_RL_178, in_X12_thrown, sl_X12_thrown⟩ ⟨by decide, by decide⟩ rfl ⟨by decide, by decide⟩ hl.1 rfl (Nat.le_of_ble_eq_true rfl) ⟨by show _ ≤ 601024; omega, by show _ ≤ 7293034; omega⟩ dL_law_3186 (fun H locs S => ?_)
    refine lv_iload hx hb dL_law_3189 (lv_at hl 1 rfl) ?_
    refine lv_icmp_eq (tgt := 3196) hx hb dL_law_3191 (by decide) (fun c1 => ?_) (fun c1 => absurd ht c1)
    refine lv_iload hx hb dL_law_3196 (lv_at hl 1 rfl) ?_
    refine lv_if_ne (tgt := 3213) hx hb dL_law_3198 (by decide) (fun c2 => absurd rfl c2) (fun c2 => ?_)
    refine lv_aload_n hx hb dL_law_3201 rfl (lv_at hl 5 rfl) ?_
    refine lv_iconst (v := (0 : Int32)) hx hb dL_law_3202 (by decide) ?_
    refine x_lald C S ok_194 dL_law_3203 ?_
    refine lv_iload hx hb dL_law_3204 (lv_at hl 0 rfl) ?_
    refine lv_i2l hx hb dL_law_3206 rfl ?_
    refine W.lcmp hx hb dL_law_3207 ?_
    refine lv_if_eq (tgt := 3213) hx hb dL_law_3208 (by decide) (fun c4 => ?_) (fun c4 => absurd (by show lg_cmp (L1 194 0) _ = 0; rw [hLv]; exact lgc_self _) c4)
    refine lv_goto (tgt := 3423) hx hb dL_law_3213 (by decide) ?_
    exact W.widen (k := cells + 4) (n := slots + 24) (by omega) (by omega) (kk σ2 R L1 H locs ls hI2 S (lv_sub hl [2, 3, 4, 5, 6] rfl))
  | inr q =>
    obtain ⟨rfl, ht⟩ := hthr q rfl
    refine lv_aload_n hx hb dL_law_3172 rfl (lv_at hl 1 rfl) ?_
    refine lv_aload_n hx hb dL_law_3173 rfl (lv_at hl 3 rfl) ?_
    refine v_callW C S (h_planLength_x2 (L := L) hm hSh ok_1 ok_194) ⟨cd_L_planLength, ni_RL, ml_RL_347, st_L_planLength⟩ ⟨by decide, by decide⟩ rfl ⟨by decide, by decide⟩ hl.1 rfl (Nat.le_of_ble_eq_true rfl) ⟨by show _ ≤ 601024; omega, by show _ ≤ 7293034; omega⟩ dL_law_3174 (fun w σ' H locs hp S => ?_)
    obtain ⟨rfl, rfl⟩ := hp
    have S : S2 g s σ1 R L H locs := S
    refine lv_istore (lv' := [(5, .int 1), (0, .ref b), (1, .ref (gb g + 1)), (2, .ref (gb g + 178)), (3, .ref (gb g + 194)), (4, .int x4)]) hx hb dL_law_3177 hl (by decide) rfl (fun ls hl => ?_)
    refine lv_aload_n hx hb dL_law_3179 rfl (lv_at hl 3 rfl) ?_
    refine x_callVI C S KX12 ok_178 (ok_X12_planLength (L := L) hmod hSh ok_178) ⟨cd_X12_planLength, ni_RX12, ml_RL_349, in_X12_planLength, sl_X12_planLength⟩ ⟨by decide, by decide⟩ rfl ⟨by decide, by decide⟩ hl.1 rfl (Nat.le_of_ble_eq_true rfl) ⟨by show _ ≤ 601024; omega, by show _ ≤ 7293034; omega⟩ dL_law_3180 (fun H locs S => ?_)
    refine lv_istore (lv' := [(6, .int b2), (5, .int 1), (0, .ref b), (1, .ref (gb g + 1)), (2, .ref (gb g + 178)), (3, .ref (gb g + 194)), (4, .int x4)]) hx hb dL_law_3183 hl (by decide) rfl (fun ls hl => ?_)
    refine lv_aload_n hx hb dL_law_3185 rfl (lv_at hl 4 rfl) ?_
    refine x_callVI C S KX12 ok_178 (ok_X12_thrown (L := L) (thr_eq N R σ2 178) hSh ok_178) ⟨cd_X12_thrown, ni_RX12, ml_RL_178, in_X12_thrown, sl_X12_thrown⟩ ⟨by decide, by decide⟩ rfl ⟨by decide, by decide⟩ hl.1 rfl (Nat.le_of_ble_eq_true rfl) ⟨by show _ ≤ 601024; omega, by show _ ≤ 7293034; omega⟩ dL_law_3186 (fun H locs S => ?_)
    refine lv_iload hx hb dL_law_3189 (lv_at hl 1 rfl) ?_
    refine lv_icmp_eq (tgt := 3196) hx hb dL_law_3191 (by decide) (fun c1 => ?_) (fun c1 => absurd ht c1)
    refine lv_iload hx hb dL_law_3196 (lv_at hl 1 rfl) ?_
    refine lv_if_ne (tgt := 3213) hx hb dL_law_3198 (by decide) (fun c2 => ?_) (fun c2 => absurd c2 (by decide))
    refine lv_goto (tgt := 3423) hx hb dL_law_3213 (by decide) ?_
    exact W.widen (k := cells + 4) (n := slots + 24) (by omega) (by omega) (kk σ2 R L H locs ls hI2 S (lv_sub hl [2, 3, 4, 5, 6] rfl))
set_option maxHeartbeats 4000000 in
set_option maxRecDepth 100000 in
theorem lc_55 {l : Launch} {g : GL} {p : Program} {e : Jvm.Env} {s : State} {m : MethodId} {below : List Frame} {meth : Method} {c : Code} {b Lx : Nat} {xs : Nat → Int32} {N : Nat} {Inv : SI → (Nat → Nat → Nat) → Prop} {σ : SI} {R : Nat → Nat → Nat} {L : Nat → Nat → Int64} {x4 : Int32} {cells slots : Nat} (C : Cx l g p s m meth c cL_law 7 RL) (hX : va_X b Lx xs s s.heap) (hbl : b < s.heap.size) (hbA : ¬ gA g b) (hI : Inv σ R) (hIS : InvOk Inv) (hAg : Ag_55 N Inv) (h1 : vp_in (x4 + 1) Lx) (hcs : cells + 4 ≤ 601024 ∧ slots + 24 ≤ 7293034) (kk : ∀ (σ' : SI) (R' : Nat → Nat → Nat) (L' : Nat → Nat → Int64) (H : Heap) (locs : List Loc) (ls : Array Slot), Inv σ' R' → S2 g s σ' R' L' H locs → lv_has ls 7 [(0, .ref b), (1, .ref (gb g + 1)), (2, .ref (gb g + 178)), (3, .ref (gb g + 194)), (4, .int x4)] → W p l e room_1 s m #[Value.ref b] below meth c H locs (cells + 4) (slots + 24) (lw_Z below #[Value.ref b] s) (F0 m 3423 ls [])) : ∀ (H : Heap) (locs : List Loc) (ls : Array Slot), S2 g s σ R L H locs → lv_has ls 7 [(0, .ref b), (1, .ref (gb g + 1)), (2, .ref (gb g + 178)), (3, .ref (gb g + 194)), (4, .int x4)] → W p l e room_1 s m #[Value.ref b] below meth c H locs (cells) (slots) (lw_Z below #[Value.ref b] s) (F0 m 3216 ls []) := by
  intro H locs ls S hl
  obtain ⟨hc1, hc2⟩ := hcs
  have hx := C.1
  have hb := C.2.1
  have hSh := hIS σ R hI
  obtain ⟨res, σ1, b2, σ2, hm, hmod, hI2, hret, hthr⟩ := hAg σ R (xs (x4 + 1).toNatClampNeg) hI
  cases res with
  | inl v =>
    obtain ⟨ht, rfl⟩ := hret v rfl
    refine lv_aload_n hx hb dL_law_3216 rfl (lv_at hl 1 rfl) ?_
    refine lv_aload_n hx hb dL_law_3217 rfl (lv_at hl 0 rfl) ?_
    refine lv_iload hx hb dL_law_3218 (lv_at hl 4 rfl) ?_
    refine lv_iconst (v := (1 : Int32)) hx hb dL_law_3220 (by decide) ?_
    refine lv_iadd hx hb dL_law_3221 ?_
    refine va_sld hx hb hX hbl hbA S.2 h1 dL_law_3222 ?_
    refine lv_aload_n hx hb dL_law_3223 rfl (lv_at hl 3 rfl) ?_
    refine v_callW C S (h_planTime_ret (L := L) hm hSh ok_1 ok_194) ⟨cd_L_planTime, ni_RL, ml_RL_350, st_L_planTime⟩ ⟨by decide, by decide⟩ rfl ⟨by decide, by decide⟩ hl.1 rfl (Nat.le_of_ble_eq_true rfl) ⟨by show _ ≤ 601024; omega, by show _ ≤ 7293034; omega⟩ dL_law_3224 (fun w σ' H locs hp S => ?_)
    obtain ⟨rfl, rfl⟩ := hp
    have S : S2 g s σ1 R (fun a j => if a = 194 ∧ j = 0 then v.toInt64 else L a j) H locs := S
    obtain ⟨L1, hL1, hLv⟩ : ∃ L1 : Nat → Nat → Int64, (fun a j => if a = 194 ∧ j = 0 then v.toInt64 else L a j) = L1 ∧ L1 194 0 = v.toInt64 := ⟨_, rfl, if_pos ⟨rfl, rfl⟩⟩
    rw [hL1] at S
    refine lv_istore (lv' := [(5, .int 0), (0, .ref b), (1, .ref (gb g + 1)), (2, .ref (gb g + 178)), (3, .ref (gb g + 194)), (4, .int x4)]) hx hb dL_law_3227 hl (by decide) rfl (fun ls hl => ?_)
    refine lv_aload_n hx hb dL_law_3229 rfl (lv_at hl 3 rfl) ?_
    refine lv_aload_n hx hb dL_law_3230 rfl (lv_at hl 1 rfl) ?_
    refine lv_iload hx hb dL_law_3231 (lv_at hl 5 rfl) ?_
    refine lv_iconst (v := (1 : Int32)) hx hb dL_law_3233 (by decide) ?_
    refine lv_iadd hx hb dL_law_3234 ?_
    refine va_sld hx hb hX hbl hbA S.2 h1 dL_law_3235 ?_
    refine x_callVI C S KX12 ok_178 (ok_X12_planTime (L := L1) hmod hSh ok_178) ⟨cd_X12_planTime, ni_RX12, ml_RL_352, in_X12_planTime, sl_X12_planTime⟩ ⟨by decide, by decide⟩ rfl ⟨by decide, by decide⟩ hl.1 rfl (Nat.le_of_ble_eq_true rfl) ⟨by show _ ≤ 601024; omega, by show _ ≤ 7293034; omega⟩ dL_law_3236 (fun H locs S => ?_)
    refine lv_istore (lv' := [(6, .int v), (5, .int 0), (0, .ref b), (1, .ref (gb g + 1)), (2, .ref (gb g + 178)), (3, .ref (gb g + 194)), (4, .int x4)]) hx hb dL_law_3239 hl (by decide) rfl (fun ls hl => ?_)
    refine lv_aload_n hx hb dL_law_3241 rfl (lv_at hl 4 rfl) ?_
    refine x_callVI C S KX12 ok_178 (ok_X12_thrown (L := L1) (thr_eq N R σ2 178) hSh ok_178) ⟨cd_X12_thrown, ni_RX12, ml_RL_178, in_X12_thrown, sl_X12_thrown⟩ ⟨by decide, by decide⟩ rfl ⟨by decide, by decide⟩ hl.1 rfl (Nat.le_of_ble_eq_true rfl) ⟨by show _ ≤ 601024; omega, by show _ ≤ 7293034; omega⟩ dL_law_3242 (fun H locs S => ?_)
    refine lv_iload hx hb dL_law_3245 (lv_at hl 1 rfl) ?_
    refine lv_icmp_eq (tgt := 3252) hx hb dL_law_3247 (by decide) (fun c1 => ?_) (fun c1 => absurd ht c1)
    refine lv_iload hx hb dL_law_3252 (lv_at hl 1 rfl) ?_
    refine lv_if_ne (tgt := 3269) hx hb dL_law_3254 (by decide) (fun c2 => absurd rfl c2) (fun c2 => ?_)
    refine lv_aload_n hx hb dL_law_3257 rfl (lv_at hl 5 rfl) ?_
    refine lv_iconst (v := (0 : Int32)) hx hb dL_law_3258 (by decide) ?_
    refine x_lald C S ok_194 dL_law_3259 ?_
    refine lv_iload hx hb dL_law_3260 (lv_at hl 0 rfl) ?_
    refine lv_i2l hx hb dL_law_3262 rfl ?_
    refine W.lcmp hx hb dL_law_3263 ?_
    refine lv_if_eq (tgt := 3269) hx hb dL_law_3264 (by decide) (fun c4 => ?_) (fun c4 => absurd (by show lg_cmp (L1 194 0) _ = 0; rw [hLv]; exact lgc_self _) c4)
    refine lv_goto (tgt := 3423) hx hb dL_law_3269 (by decide) ?_
    exact W.widen (k := cells + 4) (n := slots + 24) (by omega) (by omega) (kk σ2 R L1 H locs ls hI2 S (lv_sub hl [2, 3, 4, 5, 6] rfl))
  | inr q =>
    rcases hthr q rfl with ⟨rfl, ht⟩ | ⟨rfl, ht⟩
    · refine lv_aload_n hx hb dL_law_3216 rfl (lv_at hl 1 rfl) ?_
      refine lv_aload_n hx hb dL_law_3217 rfl (lv_at hl 0 rfl) ?_
      refine lv_iload hx hb dL_law_3218 (lv_at hl 4 rfl) ?_
      refine lv_iconst (v := (1 : Int32)) hx hb dL_law_3220 (by decide) ?_
      refine lv_iadd hx hb dL_law_3221 ?_
      refine va_sld hx hb hX hbl hbA S.2 h1 dL_law_3222 ?_
      refine lv_aload_n hx hb dL_law_3223 rfl (lv_at hl 3 rfl) ?_
      refine v_callW C S (h_planTime_x0 (L := L) hm hSh ok_1 ok_194) ⟨cd_L_planTime, ni_RL, ml_RL_350, st_L_planTime⟩ ⟨by decide, by decide⟩ rfl ⟨by decide, by decide⟩ hl.1 rfl (Nat.le_of_ble_eq_true rfl) ⟨by show _ ≤ 601024; omega, by show _ ≤ 7293034; omega⟩ dL_law_3224 (fun w σ' H locs hp S => ?_)
      obtain ⟨rfl, rfl⟩ := hp
      have S : S2 g s σ1 R L H locs := S
      refine lv_istore (lv' := [(5, .int 1), (0, .ref b), (1, .ref (gb g + 1)), (2, .ref (gb g + 178)), (3, .ref (gb g + 194)), (4, .int x4)]) hx hb dL_law_3227 hl (by decide) rfl (fun ls hl => ?_)
      refine lv_aload_n hx hb dL_law_3229 rfl (lv_at hl 3 rfl) ?_
      refine lv_aload_n hx hb dL_law_3230 rfl (lv_at hl 1 rfl) ?_
      refine lv_iload hx hb dL_law_3231 (lv_at hl 5 rfl) ?_
      refine lv_iconst (v := (1 : Int32)) hx hb dL_law_3233 (by decide) ?_
      refine lv_iadd hx hb dL_law_3234 ?_
      refine va_sld hx hb hX hbl hbA S.2 h1 dL_law_3235 ?_
      refine x_callVI C S KX12 ok_178 (ok_X12_planTime (L := L) hmod hSh ok_178) ⟨cd_X12_planTime, ni_RX12, ml_RL_352, in_X12_planTime, sl_X12_planTime⟩ ⟨by decide, by decide⟩ rfl ⟨by decide, by decide⟩ hl.1 rfl (Nat.le_of_ble_eq_true rfl) ⟨by show _ ≤ 601024; omega, by show _ ≤ 7293034; omega⟩ dL_law_3236 (fun H locs S => ?_)
      refine lv_istore (lv' := [(6, .int b2), (5, .int 1), (0, .ref b), (1, .ref (gb g + 1)), (2, .ref (gb g + 178)), (3, .ref (gb g + 194)), (4, .int x4)]) hx hb dL_law_3239 hl (by decide) rfl (fun ls hl => ?_)
      refine lv_aload_n hx hb dL_law_3241 rfl (lv_at hl 4 rfl) ?_
      refine x_callVI C S KX12 ok_178 (ok_X12_thrown (L := L) (thr_eq N R σ2 178) hSh ok_178) ⟨cd_X12_thrown, ni_RX12, ml_RL_178, in_X12_thrown, sl_X12_thrown⟩ ⟨by decide, by decide⟩ rfl ⟨by decide, by decide⟩ hl.1 rfl (Nat.le_of_ble_eq_true rfl) ⟨by show _ ≤ 601024; omega, by show _ ≤ 7293034; omega⟩ dL_law_3242 (fun H locs S => ?_)
      refine lv_iload hx hb dL_law_3245 (lv_at hl 1 rfl) ?_
      refine lv_icmp_eq (tgt := 3252) hx hb dL_law_3247 (by decide) (fun c1 => ?_) (fun c1 => absurd ht c1)
      refine lv_iload hx hb dL_law_3252 (lv_at hl 1 rfl) ?_
      refine lv_if_ne (tgt := 3269) hx hb dL_law_3254 (by decide) (fun c2 => ?_) (fun c2 => absurd c2 (by decide))
      refine lv_goto (tgt := 3423) hx hb dL_law_3269 (by decide) ?_
      exact W.widen (k := cells + 4) (n := slots + 24) (by omega) (by omega) (kk σ2 R L H locs ls hI2 S (lv_sub hl [2, 3, 4, 5, 6] rfl))
    · refine lv_aload_n hx hb dL_law_3216 rfl (lv_at hl 1 rfl) ?_
      refine lv_aload_n hx hb dL_law_3217 rfl (lv_at hl 0 rfl) ?_
      refine lv_iload hx hb dL_law_3218 (lv_at hl 4 rfl) ?_
      refine lv_iconst (v := (1 : Int32)) hx hb dL_law_3220 (by decide) ?_
      refine lv_iadd hx hb dL_law_3221 ?_
      refine va_sld hx hb hX hbl hbA S.2 h1 dL_law_3222 ?_
      refine lv_aload_n hx hb dL_law_3223 rfl (lv_at hl 3 rfl) ?_
      refine v_callW C S (h_planTime_x2 (L := L) hm hSh ok_1 ok_194) ⟨cd_L_planTime, ni_RL, ml_RL_350, st_L_planTime⟩ ⟨by decide, by decide⟩ rfl ⟨by decide, by decide⟩ hl.1 rfl (Nat.le_of_ble_eq_true rfl) ⟨by show _ ≤ 601024; omega, by show _ ≤ 7293034; omega⟩ dL_law_3224 (fun w σ' H locs hp S => ?_)
      obtain ⟨rfl, rfl⟩ := hp
      have S : S2 g s σ1 R L H locs := S
      refine lv_istore (lv' := [(5, .int 2), (0, .ref b), (1, .ref (gb g + 1)), (2, .ref (gb g + 178)), (3, .ref (gb g + 194)), (4, .int x4)]) hx hb dL_law_3227 hl (by decide) rfl (fun ls hl => ?_)
      refine lv_aload_n hx hb dL_law_3229 rfl (lv_at hl 3 rfl) ?_
      refine lv_aload_n hx hb dL_law_3230 rfl (lv_at hl 1 rfl) ?_
      refine lv_iload hx hb dL_law_3231 (lv_at hl 5 rfl) ?_
      refine lv_iconst (v := (1 : Int32)) hx hb dL_law_3233 (by decide) ?_
      refine lv_iadd hx hb dL_law_3234 ?_
      refine va_sld hx hb hX hbl hbA S.2 h1 dL_law_3235 ?_
      refine x_callVI C S KX12 ok_178 (ok_X12_planTime (L := L) hmod hSh ok_178) ⟨cd_X12_planTime, ni_RX12, ml_RL_352, in_X12_planTime, sl_X12_planTime⟩ ⟨by decide, by decide⟩ rfl ⟨by decide, by decide⟩ hl.1 rfl (Nat.le_of_ble_eq_true rfl) ⟨by show _ ≤ 601024; omega, by show _ ≤ 7293034; omega⟩ dL_law_3236 (fun H locs S => ?_)
      refine lv_istore (lv' := [(6, .int b2), (5, .int 2), (0, .ref b), (1, .ref (gb g + 1)), (2, .ref (gb g + 178)), (3, .ref (gb g + 194)), (4, .int x4)]) hx hb dL_law_3239 hl (by decide) rfl (fun ls hl => ?_)
      refine lv_aload_n hx hb dL_law_3241 rfl (lv_at hl 4 rfl) ?_
      refine x_callVI C S KX12 ok_178 (ok_X12_thrown (L := L) (thr_eq N R σ2 178) hSh ok_178) ⟨cd_X12_thrown, ni_RX12, ml_RL_178, in_X12_thrown, sl_X12_thrown⟩ ⟨by decide, by decide⟩ rfl ⟨by decide, by decide⟩ hl.1 rfl (Nat.le_of_ble_eq_true rfl) ⟨by show _ ≤ 601024; omega, by show _ ≤ 7293034; omega⟩ dL_law_3242 (fun H locs S => ?_)
      refine lv_iload hx hb dL_law_3245 (lv_at hl 1 rfl) ?_
      refine lv_icmp_eq (tgt := 3252) hx hb dL_law_3247 (by decide) (fun c1 => ?_) (fun c1 => absurd ht c1)
      refine lv_iload hx hb dL_law_3252 (lv_at hl 1 rfl) ?_
      refine lv_if_ne (tgt := 3269) hx hb dL_law_3254 (by decide) (fun c2 => ?_) (fun c2 => absurd c2 (by decide))
      refine lv_goto (tgt := 3423) hx hb dL_law_3269 (by decide) ?_
      exact W.widen (k := cells + 4) (n := slots + 24) (by omega) (by omega) (kk σ2 R L H locs ls hI2 S (lv_sub hl [2, 3, 4, 5, 6] rfl))
set_option maxHeartbeats 4000000 in
set_option maxRecDepth 100000 in
theorem lc_56 {l : Launch} {g : GL} {p : Program} {e : Jvm.Env} {s : State} {m : MethodId} {below : List Frame} {meth : Method} {c : Code} {b Lx : Nat} {xs : Nat → Int32} {N : Nat} {Inv : SI → (Nat → Nat → Nat) → Prop} {σ : SI} {R : Nat → Nat → Nat} {L : Nat → Nat → Int64} {x4 : Int32} {cells slots : Nat} (C : Cx l g p s m meth c cL_law 7 RL) (hX : va_X b Lx xs s s.heap) (hbl : b < s.heap.size) (hbA : ¬ gA g b) (hI : Inv σ R) (hIS : InvOk Inv) (hAg : Ag_56 N Inv) (hcs : cells + 4 ≤ 601024 ∧ slots + 24 ≤ 7293034) (kk : ∀ (σ' : SI) (R' : Nat → Nat → Nat) (L' : Nat → Nat → Int64) (H : Heap) (locs : List Loc) (ls : Array Slot), Inv σ' R' → S2 g s σ' R' L' H locs → lv_has ls 7 [(0, .ref b), (1, .ref (gb g + 1)), (2, .ref (gb g + 178)), (3, .ref (gb g + 194)), (4, .int x4)] → W p l e room_1 s m #[Value.ref b] below meth c H locs (cells + 4) (slots + 24) (lw_Z below #[Value.ref b] s) (F0 m 3423 ls [])) : ∀ (H : Heap) (locs : List Loc) (ls : Array Slot), S2 g s σ R L H locs → lv_has ls 7 [(0, .ref b), (1, .ref (gb g + 1)), (2, .ref (gb g + 178)), (3, .ref (gb g + 194)), (4, .int x4)] → W p l e room_1 s m #[Value.ref b] below meth c H locs (cells) (slots) (lw_Z below #[Value.ref b] s) (F0 m 3272 ls []) := by
  intro H locs ls S hl
  obtain ⟨hc1, hc2⟩ := hcs
  have hx := C.1
  have hb := C.2.1
  have hSh := hIS σ R hI
  obtain ⟨res, σ1, b2, σ2, hm, hmod, hI2, hret, hthr⟩ := hAg σ R hI
  cases res with
  | inl v =>
    obtain ⟨ht, rfl⟩ := hret v rfl
    refine lv_aload_n hx hb dL_law_3272 rfl (lv_at hl 1 rfl) ?_
    refine lv_aload_n hx hb dL_law_3273 rfl (lv_at hl 3 rfl) ?_
    refine v_callW C S (h_applyPlan_ret (L := L) hm hSh ok_1 ok_194) ⟨cd_L_applyPlan, ni_RL, ml_RL_353, st_L_applyPlan⟩ ⟨by decide, by decide⟩ rfl ⟨by decide, by decide⟩ hl.1 rfl (Nat.le_of_ble_eq_true rfl) ⟨by show _ ≤ 601024; omega, by show _ ≤ 7293034; omega⟩ dL_law_3274 (fun w σ' H locs hp S => ?_)
    obtain ⟨rfl, rfl⟩ := hp
    have S : S2 g s σ1 R (fun a j => if a = 194 ∧ j = 0 then v.toInt64 else L a j) H locs := S
    obtain ⟨L1, hL1, hLv⟩ : ∃ L1 : Nat → Nat → Int64, (fun a j => if a = 194 ∧ j = 0 then v.toInt64 else L a j) = L1 ∧ L1 194 0 = v.toInt64 := ⟨_, rfl, if_pos ⟨rfl, rfl⟩⟩
    rw [hL1] at S
    refine lv_istore (lv' := [(5, .int 0), (0, .ref b), (1, .ref (gb g + 1)), (2, .ref (gb g + 178)), (3, .ref (gb g + 194)), (4, .int x4)]) hx hb dL_law_3277 hl (by decide) rfl (fun ls hl => ?_)
    refine lv_aload_n hx hb dL_law_3279 rfl (lv_at hl 3 rfl) ?_
    refine x_callVI C S KX12 ok_178 (ok_X12_applyPlan (L := L1) hmod hSh ok_178) ⟨cd_X12_applyPlan, ni_RX12, ml_RL_355, in_X12_applyPlan, sl_X12_applyPlan⟩ ⟨by decide, by decide⟩ rfl ⟨by decide, by decide⟩ hl.1 rfl (Nat.le_of_ble_eq_true rfl) ⟨by show _ ≤ 601024; omega, by show _ ≤ 7293034; omega⟩ dL_law_3280 (fun H locs S => ?_)
    refine lv_istore (lv' := [(6, .int v), (5, .int 0), (0, .ref b), (1, .ref (gb g + 1)), (2, .ref (gb g + 178)), (3, .ref (gb g + 194)), (4, .int x4)]) hx hb dL_law_3283 hl (by decide) rfl (fun ls hl => ?_)
    refine lv_aload_n hx hb dL_law_3285 rfl (lv_at hl 4 rfl) ?_
    refine x_callVI C S KX12 ok_178 (ok_X12_thrown (L := L1) (thr_eq N R σ2 178) hSh ok_178) ⟨cd_X12_thrown, ni_RX12, ml_RL_178, in_X12_thrown, sl_X12_thrown⟩ ⟨by decide, by decide⟩ rfl ⟨by decide, by decide⟩ hl.1 rfl (Nat.le_of_ble_eq_true rfl) ⟨by show _ ≤ 601024; omega, by show _ ≤ 7293034; omega⟩ dL_law_3286 (fun H locs S => ?_)
    refine lv_iload hx hb dL_law_3289 (lv_at hl 1 rfl) ?_
    refine lv_icmp_eq (tgt := 3296) hx hb dL_law_3291 (by decide) (fun c1 => ?_) (fun c1 => absurd ht c1)
    refine lv_iload hx hb dL_law_3296 (lv_at hl 1 rfl) ?_
    refine lv_if_ne (tgt := 3313) hx hb dL_law_3298 (by decide) (fun c2 => absurd rfl c2) (fun c2 => ?_)
    refine lv_aload_n hx hb dL_law_3301 rfl (lv_at hl 5 rfl) ?_
    refine lv_iconst (v := (0 : Int32)) hx hb dL_law_3302 (by decide) ?_
    refine x_lald C S ok_194 dL_law_3303 ?_
    refine lv_iload hx hb dL_law_3304 (lv_at hl 0 rfl) ?_
    refine lv_i2l hx hb dL_law_3306 rfl ?_
    refine W.lcmp hx hb dL_law_3307 ?_
    refine lv_if_eq (tgt := 3313) hx hb dL_law_3308 (by decide) (fun c4 => ?_) (fun c4 => absurd (by show lg_cmp (L1 194 0) _ = 0; rw [hLv]; exact lgc_self _) c4)
    refine lv_goto (tgt := 3423) hx hb dL_law_3313 (by decide) ?_
    exact W.widen (k := cells + 4) (n := slots + 24) (by omega) (by omega) (kk σ2 R L1 H locs ls hI2 S (lv_sub hl [2, 3, 4, 5, 6] rfl))
  | inr q =>
    obtain ⟨rfl, ht⟩ := hthr q rfl
    refine lv_aload_n hx hb dL_law_3272 rfl (lv_at hl 1 rfl) ?_
    refine lv_aload_n hx hb dL_law_3273 rfl (lv_at hl 3 rfl) ?_
    refine v_callW C S (h_applyPlan_x2 (L := L) hm hSh ok_1 ok_194) ⟨cd_L_applyPlan, ni_RL, ml_RL_353, st_L_applyPlan⟩ ⟨by decide, by decide⟩ rfl ⟨by decide, by decide⟩ hl.1 rfl (Nat.le_of_ble_eq_true rfl) ⟨by show _ ≤ 601024; omega, by show _ ≤ 7293034; omega⟩ dL_law_3274 (fun w σ' H locs hp S => ?_)
    obtain ⟨rfl, rfl⟩ := hp
    have S : S2 g s σ1 R L H locs := S
    refine lv_istore (lv' := [(5, .int 1), (0, .ref b), (1, .ref (gb g + 1)), (2, .ref (gb g + 178)), (3, .ref (gb g + 194)), (4, .int x4)]) hx hb dL_law_3277 hl (by decide) rfl (fun ls hl => ?_)
    refine lv_aload_n hx hb dL_law_3279 rfl (lv_at hl 3 rfl) ?_
    refine x_callVI C S KX12 ok_178 (ok_X12_applyPlan (L := L) hmod hSh ok_178) ⟨cd_X12_applyPlan, ni_RX12, ml_RL_355, in_X12_applyPlan, sl_X12_applyPlan⟩ ⟨by decide, by decide⟩ rfl ⟨by decide, by decide⟩ hl.1 rfl (Nat.le_of_ble_eq_true rfl) ⟨by show _ ≤ 601024; omega, by show _ ≤ 7293034; omega⟩ dL_law_3280 (fun H locs S => ?_)
    refine lv_istore (lv' := [(6, .int b2), (5, .int 1), (0, .ref b), (1, .ref (gb g + 1)), (2, .ref (gb g + 178)), (3, .ref (gb g + 194)), (4, .int x4)]) hx hb dL_law_3283 hl (by decide) rfl (fun ls hl => ?_)
    refine lv_aload_n hx hb dL_law_3285 rfl (lv_at hl 4 rfl) ?_
    refine x_callVI C S KX12 ok_178 (ok_X12_thrown (L := L) (thr_eq N R σ2 178) hSh ok_178) ⟨cd_X12_thrown, ni_RX12, ml_RL_178, in_X12_thrown, sl_X12_thrown⟩ ⟨by decide, by decide⟩ rfl ⟨by decide, by decide⟩ hl.1 rfl (Nat.le_of_ble_eq_true rfl) ⟨by show _ ≤ 601024; omega, by show _ ≤ 7293034; omega⟩ dL_law_3286 (fun H locs S => ?_)
    refine lv_iload hx hb dL_law_3289 (lv_at hl 1 rfl) ?_
    refine lv_icmp_eq (tgt := 3296) hx hb dL_law_3291 (by decide) (fun c1 => ?_) (fun c1 => absurd ht c1)
    refine lv_iload hx hb dL_law_3296 (lv_at hl 1 rfl) ?_
    refine lv_if_ne (tgt := 3313) hx hb dL_law_3298 (by decide) (fun c2 => ?_) (fun c2 => absurd c2 (by decide))
    refine lv_goto (tgt := 3423) hx hb dL_law_3313 (by decide) ?_
    exact W.widen (k := cells + 4) (n := slots + 24) (by omega) (by omega) (kk σ2 R L H locs ls hI2 S (lv_sub hl [2, 3, 4, 5, 6] rfl))
set_option maxHeartbeats 4000000 in
set_option maxRecDepth 100000 in
theorem lc_57 {l : Launch} {g : GL} {p : Program} {e : Jvm.Env} {s : State} {m : MethodId} {below : List Frame} {meth : Method} {c : Code} {b Lx : Nat} {xs : Nat → Int32} {N : Nat} {Inv : SI → (Nat → Nat → Nat) → Prop} {σ : SI} {R : Nat → Nat → Nat} {L : Nat → Nat → Int64} {x4 : Int32} {cells slots : Nat} (C : Cx l g p s m meth c cL_law 7 RL) (hX : va_X b Lx xs s s.heap) (hbl : b < s.heap.size) (hbA : ¬ gA g b) (hI : Inv σ R) (hIS : InvOk Inv) (hAg : Ag_57 N Inv) (hcs : cells + 4 ≤ 601024 ∧ slots + 24 ≤ 7293034) (kk : ∀ (σ' : SI) (R' : Nat → Nat → Nat) (L' : Nat → Nat → Int64) (H : Heap) (locs : List Loc) (ls : Array Slot), Inv σ' R' → S2 g s σ' R' L' H locs → lv_has ls 7 [(0, .ref b), (1, .ref (gb g + 1)), (2, .ref (gb g + 178)), (3, .ref (gb g + 194)), (4, .int x4)] → W p l e room_1 s m #[Value.ref b] below meth c H locs (cells + 4) (slots + 24) (lw_Z below #[Value.ref b] s) (F0 m 3423 ls [])) : ∀ (H : Heap) (locs : List Loc) (ls : Array Slot), S2 g s σ R L H locs → lv_has ls 7 [(0, .ref b), (1, .ref (gb g + 1)), (2, .ref (gb g + 178)), (3, .ref (gb g + 194)), (4, .int x4)] → W p l e room_1 s m #[Value.ref b] below meth c H locs (cells) (slots) (lw_Z below #[Value.ref b] s) (F0 m 3316 ls []) := by
  intro H locs ls S hl
  obtain ⟨hc1, hc2⟩ := hcs
  have hx := C.1
  have hb := C.2.1
  have hSh := hIS σ R hI
  obtain ⟨b1, σ1, b2, σ2, hm, hmod, hI2, hres⟩ := hAg σ R hI
  refine lv_aload_n hx hb dL_law_3316 rfl (lv_at hl 1 rfl) ?_
  refine x_callVI C S KX11 ok_1 (ok_X11_undo (L := L) hm hSh ok_1) ⟨cd_X11_undo, ni_RX11, ml_RL_356, in_X11_undo, sl_X11_undo⟩ ⟨by decide, by decide⟩ rfl ⟨by decide, by decide⟩ hl.1 rfl (Nat.le_of_ble_eq_true rfl) ⟨by show _ ≤ 601024; omega, by show _ ≤ 7293034; omega⟩ dL_law_3317 (fun H locs S => ?_)
  refine lv_aload_n hx hb dL_law_3320 rfl (lv_at hl 2 rfl) ?_
  refine x_callVI C S KX12 ok_178 (ok_X12_undo (L := L) hmod hSh ok_178) ⟨cd_X12_undo, ni_RX12, ml_RL_359, in_X12_undo, sl_X12_undo⟩ ⟨by decide, by decide⟩ rfl ⟨by decide, by decide⟩ hl.1 rfl (Nat.le_of_ble_eq_true rfl) ⟨by show _ ≤ 601024; omega, by show _ ≤ 7293034; omega⟩ dL_law_3321 (fun H locs S => ?_)
  refine lv_icmp_eq (tgt := 3423) hx hb dL_law_3324 (by decide) (fun c1 => ?_) (fun c1 => absurd hres c1)
  exact W.widen (k := cells + 4) (n := slots + 24) (by omega) (by omega) (kk σ2 R L H locs ls hI2 S hl)
set_option maxHeartbeats 4000000 in
set_option maxRecDepth 100000 in
theorem lc_58 {l : Launch} {g : GL} {p : Program} {e : Jvm.Env} {s : State} {m : MethodId} {below : List Frame} {meth : Method} {c : Code} {b Lx : Nat} {xs : Nat → Int32} {N : Nat} {Inv : SI → (Nat → Nat → Nat) → Prop} {σ : SI} {R : Nat → Nat → Nat} {L : Nat → Nat → Int64} {x4 : Int32} {cells slots : Nat} (C : Cx l g p s m meth c cL_law 7 RL) (hX : va_X b Lx xs s s.heap) (hbl : b < s.heap.size) (hbA : ¬ gA g b) (hI : Inv σ R) (hIS : InvOk Inv) (hAg : Ag_58 N Inv) (hcs : cells + 4 ≤ 601024 ∧ slots + 24 ≤ 7293034) (kk : ∀ (σ' : SI) (R' : Nat → Nat → Nat) (L' : Nat → Nat → Int64) (H : Heap) (locs : List Loc) (ls : Array Slot), Inv σ' R' → S2 g s σ' R' L' H locs → lv_has ls 7 [(0, .ref b), (1, .ref (gb g + 1)), (2, .ref (gb g + 178)), (3, .ref (gb g + 194)), (4, .int x4)] → W p l e room_1 s m #[Value.ref b] below meth c H locs (cells + 4) (slots + 24) (lw_Z below #[Value.ref b] s) (F0 m 3423 ls [])) : ∀ (H : Heap) (locs : List Loc) (ls : Array Slot), S2 g s σ R L H locs → lv_has ls 7 [(0, .ref b), (1, .ref (gb g + 1)), (2, .ref (gb g + 178)), (3, .ref (gb g + 194)), (4, .int x4)] → W p l e room_1 s m #[Value.ref b] below meth c H locs (cells) (slots) (lw_Z below #[Value.ref b] s) (F0 m 3329 ls []) := by
  intro H locs ls S hl
  obtain ⟨hc1, hc2⟩ := hcs
  have hx := C.1
  have hb := C.2.1
  have hSh := hIS σ R hI
  obtain ⟨b1, σ1, b2, σ2, hm, hmod, hI2, hres⟩ := hAg σ R hI
  refine lv_aload_n hx hb dL_law_3329 rfl (lv_at hl 1 rfl) ?_
  refine x_callVI C S KX11 ok_1 (ok_X11_undoDepth (L := L) hm hSh ok_1) ⟨cd_X11_undoDepth, ni_RX11, ml_RL_360, in_X11_undoDepth, sl_X11_undoDepth⟩ ⟨by decide, by decide⟩ rfl ⟨by decide, by decide⟩ hl.1 rfl (Nat.le_of_ble_eq_true rfl) ⟨by show _ ≤ 601024; omega, by show _ ≤ 7293034; omega⟩ dL_law_3330 (fun H locs S => ?_)
  refine lv_aload_n hx hb dL_law_3333 rfl (lv_at hl 2 rfl) ?_
  refine x_callVI C S KX12 ok_178 (ok_X12_undoDepth (L := L) hmod hSh ok_178) ⟨cd_X12_undoDepth, ni_RX12, ml_RL_363, in_X12_undoDepth, sl_X12_undoDepth⟩ ⟨by decide, by decide⟩ rfl ⟨by decide, by decide⟩ hl.1 rfl (Nat.le_of_ble_eq_true rfl) ⟨by show _ ≤ 601024; omega, by show _ ≤ 7293034; omega⟩ dL_law_3334 (fun H locs S => ?_)
  refine lv_icmp_eq (tgt := 3423) hx hb dL_law_3337 (by decide) (fun c1 => ?_) (fun c1 => absurd hres c1)
  exact W.widen (k := cells + 4) (n := slots + 24) (by omega) (by omega) (kk σ2 R L H locs ls hI2 S hl)
set_option maxHeartbeats 4000000 in
set_option maxRecDepth 100000 in
theorem lc_59 {l : Launch} {g : GL} {p : Program} {e : Jvm.Env} {s : State} {m : MethodId} {below : List Frame} {meth : Method} {c : Code} {b Lx : Nat} {xs : Nat → Int32} {N : Nat} {Inv : SI → (Nat → Nat → Nat) → Prop} {σ : SI} {R : Nat → Nat → Nat} {L : Nat → Nat → Int64} {x4 : Int32} {cells slots : Nat} (C : Cx l g p s m meth c cL_law 7 RL) (hX : va_X b Lx xs s s.heap) (hbl : b < s.heap.size) (hbA : ¬ gA g b) (hI : Inv σ R) (hIS : InvOk Inv) (hAg : Ag_59 N Inv) (h1 : vp_in (x4 + 1) Lx) (hcs : cells + 4 ≤ 601024 ∧ slots + 24 ≤ 7293034) (kk : ∀ (σ' : SI) (R' : Nat → Nat → Nat) (L' : Nat → Nat → Int64) (H : Heap) (locs : List Loc) (ls : Array Slot), Inv σ' R' → S2 g s σ' R' L' H locs → lv_has ls 7 [(0, .ref b), (1, .ref (gb g + 1)), (2, .ref (gb g + 178)), (3, .ref (gb g + 194)), (4, .int x4)] → W p l e room_1 s m #[Value.ref b] below meth c H locs (cells + 4) (slots + 24) (lw_Z below #[Value.ref b] s) (F0 m 3423 ls [])) : ∀ (H : Heap) (locs : List Loc) (ls : Array Slot), S2 g s σ R L H locs → lv_has ls 7 [(0, .ref b), (1, .ref (gb g + 1)), (2, .ref (gb g + 178)), (3, .ref (gb g + 194)), (4, .int x4)] → W p l e room_1 s m #[Value.ref b] below meth c H locs (cells) (slots) (lw_Z below #[Value.ref b] s) (F0 m 3342 ls []) := by
  intro H locs ls S hl
  obtain ⟨hc1, hc2⟩ := hcs
  have hx := C.1
  have hb := C.2.1
  have hSh := hIS σ R hI
  obtain ⟨res, σ1, b2, σ2, hm, hmod, hI2, hret, hthr⟩ := hAg σ R (xs (x4 + 1).toNatClampNeg) hI
  cases res with
  | inl v =>
    obtain ⟨ht, rfl⟩ := hret v rfl
    refine lv_aload_n hx hb dL_law_3342 rfl (lv_at hl 1 rfl) ?_
    refine lv_aload_n hx hb dL_law_3343 rfl (lv_at hl 0 rfl) ?_
    refine lv_iload hx hb dL_law_3344 (lv_at hl 4 rfl) ?_
    refine lv_iconst (v := (1 : Int32)) hx hb dL_law_3346 (by decide) ?_
    refine lv_iadd hx hb dL_law_3347 ?_
    refine va_sld hx hb hX hbl hbA S.2 h1 dL_law_3348 ?_
    refine lv_aload_n hx hb dL_law_3349 rfl (lv_at hl 3 rfl) ?_
    refine v_callW C S (h_format_ret (L := L) hm hSh ok_1 ok_194) ⟨cd_L_format, ni_RL, ml_RL_364, st_L_format⟩ ⟨by decide, by decide⟩ rfl ⟨by decide, by decide⟩ hl.1 rfl (Nat.le_of_ble_eq_true rfl) ⟨by show _ ≤ 601024; omega, by show _ ≤ 7293034; omega⟩ dL_law_3350 (fun w σ' H locs hp S => ?_)
    obtain ⟨rfl, rfl⟩ := hp
    have S : S2 g s σ1 R (fun a j => if a = 194 ∧ j = 0 then v.toInt64 else L a j) H locs := S
    obtain ⟨L1, hL1, hLv⟩ : ∃ L1 : Nat → Nat → Int64, (fun a j => if a = 194 ∧ j = 0 then v.toInt64 else L a j) = L1 ∧ L1 194 0 = v.toInt64 := ⟨_, rfl, if_pos ⟨rfl, rfl⟩⟩
    rw [hL1] at S
    refine lv_istore (lv' := [(5, .int 0), (0, .ref b), (1, .ref (gb g + 1)), (2, .ref (gb g + 178)), (3, .ref (gb g + 194)), (4, .int x4)]) hx hb dL_law_3353 hl (by decide) rfl (fun ls hl => ?_)
    refine lv_aload_n hx hb dL_law_3355 rfl (lv_at hl 3 rfl) ?_
    refine lv_aload_n hx hb dL_law_3356 rfl (lv_at hl 1 rfl) ?_
    refine lv_iload hx hb dL_law_3357 (lv_at hl 5 rfl) ?_
    refine lv_iconst (v := (1 : Int32)) hx hb dL_law_3359 (by decide) ?_
    refine lv_iadd hx hb dL_law_3360 ?_
    refine va_sld hx hb hX hbl hbA S.2 h1 dL_law_3361 ?_
    refine x_callVI C S KX12 ok_178 (ok_X12_format (L := L1) hmod hSh ok_178) ⟨cd_X12_format, ni_RX12, ml_RL_366, in_X12_format, sl_X12_format⟩ ⟨by decide, by decide⟩ rfl ⟨by decide, by decide⟩ hl.1 rfl (Nat.le_of_ble_eq_true rfl) ⟨by show _ ≤ 601024; omega, by show _ ≤ 7293034; omega⟩ dL_law_3362 (fun H locs S => ?_)
    refine lv_istore (lv' := [(6, .int v), (5, .int 0), (0, .ref b), (1, .ref (gb g + 1)), (2, .ref (gb g + 178)), (3, .ref (gb g + 194)), (4, .int x4)]) hx hb dL_law_3365 hl (by decide) rfl (fun ls hl => ?_)
    refine lv_aload_n hx hb dL_law_3367 rfl (lv_at hl 4 rfl) ?_
    refine x_callVI C S KX12 ok_178 (ok_X12_thrown (L := L1) (thr_eq N R σ2 178) hSh ok_178) ⟨cd_X12_thrown, ni_RX12, ml_RL_178, in_X12_thrown, sl_X12_thrown⟩ ⟨by decide, by decide⟩ rfl ⟨by decide, by decide⟩ hl.1 rfl (Nat.le_of_ble_eq_true rfl) ⟨by show _ ≤ 601024; omega, by show _ ≤ 7293034; omega⟩ dL_law_3368 (fun H locs S => ?_)
    refine lv_iload hx hb dL_law_3371 (lv_at hl 1 rfl) ?_
    refine lv_icmp_eq (tgt := 3378) hx hb dL_law_3373 (by decide) (fun c1 => ?_) (fun c1 => absurd ht c1)
    refine lv_iload hx hb dL_law_3378 (lv_at hl 1 rfl) ?_
    refine lv_if_ne (tgt := 3395) hx hb dL_law_3380 (by decide) (fun c2 => absurd rfl c2) (fun c2 => ?_)
    refine lv_aload_n hx hb dL_law_3383 rfl (lv_at hl 5 rfl) ?_
    refine lv_iconst (v := (0 : Int32)) hx hb dL_law_3384 (by decide) ?_
    refine x_lald C S ok_194 dL_law_3385 ?_
    refine lv_iload hx hb dL_law_3386 (lv_at hl 0 rfl) ?_
    refine lv_i2l hx hb dL_law_3388 rfl ?_
    refine W.lcmp hx hb dL_law_3389 ?_
    refine lv_if_eq (tgt := 3395) hx hb dL_law_3390 (by decide) (fun c4 => ?_) (fun c4 => absurd (by show lg_cmp (L1 194 0) _ = 0; rw [hLv]; exact lgc_self _) c4)
    refine lv_goto (tgt := 3423) hx hb dL_law_3395 (by decide) ?_
    exact W.widen (k := cells + 4) (n := slots + 24) (by omega) (by omega) (kk σ2 R L1 H locs ls hI2 S (lv_sub hl [2, 3, 4, 5, 6] rfl))
  | inr q =>
    obtain ⟨rfl, ht⟩ := hthr q rfl
    refine lv_aload_n hx hb dL_law_3342 rfl (lv_at hl 1 rfl) ?_
    refine lv_aload_n hx hb dL_law_3343 rfl (lv_at hl 0 rfl) ?_
    refine lv_iload hx hb dL_law_3344 (lv_at hl 4 rfl) ?_
    refine lv_iconst (v := (1 : Int32)) hx hb dL_law_3346 (by decide) ?_
    refine lv_iadd hx hb dL_law_3347 ?_
    refine va_sld hx hb hX hbl hbA S.2 h1 dL_law_3348 ?_
    refine lv_aload_n hx hb dL_law_3349 rfl (lv_at hl 3 rfl) ?_
    refine v_callW C S (h_format_x0 (L := L) hm hSh ok_1 ok_194) ⟨cd_L_format, ni_RL, ml_RL_364, st_L_format⟩ ⟨by decide, by decide⟩ rfl ⟨by decide, by decide⟩ hl.1 rfl (Nat.le_of_ble_eq_true rfl) ⟨by show _ ≤ 601024; omega, by show _ ≤ 7293034; omega⟩ dL_law_3350 (fun w σ' H locs hp S => ?_)
    obtain ⟨rfl, rfl⟩ := hp
    have S : S2 g s σ1 R L H locs := S
    refine lv_istore (lv' := [(5, .int 1), (0, .ref b), (1, .ref (gb g + 1)), (2, .ref (gb g + 178)), (3, .ref (gb g + 194)), (4, .int x4)]) hx hb dL_law_3353 hl (by decide) rfl (fun ls hl => ?_)
    refine lv_aload_n hx hb dL_law_3355 rfl (lv_at hl 3 rfl) ?_
    refine lv_aload_n hx hb dL_law_3356 rfl (lv_at hl 1 rfl) ?_
    refine lv_iload hx hb dL_law_3357 (lv_at hl 5 rfl) ?_
    refine lv_iconst (v := (1 : Int32)) hx hb dL_law_3359 (by decide) ?_
    refine lv_iadd hx hb dL_law_3360 ?_
    refine va_sld hx hb hX hbl hbA S.2 h1 dL_law_3361 ?_
    refine x_callVI C S KX12 ok_178 (ok_X12_format (L := L) hmod hSh ok_178) ⟨cd_X12_format, ni_RX12, ml_RL_366, in_X12_format, sl_X12_format⟩ ⟨by decide, by decide⟩ rfl ⟨by decide, by decide⟩ hl.1 rfl (Nat.le_of_ble_eq_true rfl) ⟨by show _ ≤ 601024; omega, by show _ ≤ 7293034; omega⟩ dL_law_3362 (fun H locs S => ?_)
    refine lv_istore (lv' := [(6, .int b2), (5, .int 1), (0, .ref b), (1, .ref (gb g + 1)), (2, .ref (gb g + 178)), (3, .ref (gb g + 194)), (4, .int x4)]) hx hb dL_law_3365 hl (by decide) rfl (fun ls hl => ?_)
    refine lv_aload_n hx hb dL_law_3367 rfl (lv_at hl 4 rfl) ?_
    refine x_callVI C S KX12 ok_178 (ok_X12_thrown (L := L) (thr_eq N R σ2 178) hSh ok_178) ⟨cd_X12_thrown, ni_RX12, ml_RL_178, in_X12_thrown, sl_X12_thrown⟩ ⟨by decide, by decide⟩ rfl ⟨by decide, by decide⟩ hl.1 rfl (Nat.le_of_ble_eq_true rfl) ⟨by show _ ≤ 601024; omega, by show _ ≤ 7293034; omega⟩ dL_law_3368 (fun H locs S => ?_)
    refine lv_iload hx hb dL_law_3371 (lv_at hl 1 rfl) ?_
    refine lv_icmp_eq (tgt := 3378) hx hb dL_law_3373 (by decide) (fun c1 => ?_) (fun c1 => absurd ht c1)
    refine lv_iload hx hb dL_law_3378 (lv_at hl 1 rfl) ?_
    refine lv_if_ne (tgt := 3395) hx hb dL_law_3380 (by decide) (fun c2 => ?_) (fun c2 => absurd c2 (by decide))
    refine lv_goto (tgt := 3423) hx hb dL_law_3395 (by decide) ?_
    exact W.widen (k := cells + 4) (n := slots + 24) (by omega) (by omega) (kk σ2 R L H locs ls hI2 S (lv_sub hl [2, 3, 4, 5, 6] rfl))
set_option maxHeartbeats 4000000 in
set_option maxRecDepth 100000 in
theorem lc_60 {l : Launch} {g : GL} {p : Program} {e : Jvm.Env} {s : State} {m : MethodId} {below : List Frame} {meth : Method} {c : Code} {b Lx : Nat} {xs : Nat → Int32} {N : Nat} {Inv : SI → (Nat → Nat → Nat) → Prop} {σ : SI} {R : Nat → Nat → Nat} {L : Nat → Nat → Int64} {x4 : Int32} {cells slots : Nat} (C : Cx l g p s m meth c cL_law 7 RL) (hX : va_X b Lx xs s s.heap) (hbl : b < s.heap.size) (hbA : ¬ gA g b) (hI : Inv σ R) (hIS : InvOk Inv) (hAg : Ag_60 N Inv) (h1 : vp_in (x4 + 1) Lx) (hcs : cells + 4 ≤ 601024 ∧ slots + 24 ≤ 7293034) (kk : ∀ (σ' : SI) (R' : Nat → Nat → Nat) (L' : Nat → Nat → Int64) (H : Heap) (locs : List Loc) (ls : Array Slot), Inv σ' R' → S2 g s σ' R' L' H locs → lv_has ls 7 [(0, .ref b), (1, .ref (gb g + 1)), (2, .ref (gb g + 178)), (3, .ref (gb g + 194)), (4, .int x4)] → W p l e room_1 s m #[Value.ref b] below meth c H locs (cells + 4) (slots + 24) (lw_Z below #[Value.ref b] s) (F0 m 3423 ls [])) : ∀ (H : Heap) (locs : List Loc) (ls : Array Slot), S2 g s σ R L H locs → lv_has ls 7 [(0, .ref b), (1, .ref (gb g + 1)), (2, .ref (gb g + 178)), (3, .ref (gb g + 194)), (4, .int x4)] → W p l e room_1 s m #[Value.ref b] below meth c H locs (cells) (slots) (lw_Z below #[Value.ref b] s) (F0 m 3398 ls []) := by
  intro H locs ls S hl
  obtain ⟨hc1, hc2⟩ := hcs
  have hx := C.1
  have hb := C.2.1
  have hSh := hIS σ R hI
  obtain ⟨b1, σ1, b2, σ2, hm, hmod, hI2, hres⟩ := hAg σ R (xs (x4 + 1).toNatClampNeg) hI
  refine lv_aload_n hx hb dL_law_3398 rfl (lv_at hl 1 rfl) ?_
  refine lv_aload_n hx hb dL_law_3399 rfl (lv_at hl 0 rfl) ?_
  refine lv_iload hx hb dL_law_3400 (lv_at hl 4 rfl) ?_
  refine lv_iconst (v := (1 : Int32)) hx hb dL_law_3402 (by decide) ?_
  refine lv_iadd hx hb dL_law_3403 ?_
  refine va_sld hx hb hX hbl hbA S.2 h1 dL_law_3404 ?_
  refine x_callVI C S KX11 ok_1 (ok_X11_formattedByte (L := L) hm hSh ok_1) ⟨cd_X11_formattedByte, ni_RX11, ml_RL_367, in_X11_formattedByte, sl_X11_formattedByte⟩ ⟨by decide, by decide⟩ rfl ⟨by decide, by decide⟩ hl.1 rfl (Nat.le_of_ble_eq_true rfl) ⟨by show _ ≤ 601024; omega, by show _ ≤ 7293034; omega⟩ dL_law_3405 (fun H locs S => ?_)
  refine lv_aload_n hx hb dL_law_3408 rfl (lv_at hl 2 rfl) ?_
  refine lv_aload_n hx hb dL_law_3409 rfl (lv_at hl 0 rfl) ?_
  refine lv_iload hx hb dL_law_3410 (lv_at hl 4 rfl) ?_
  refine lv_iconst (v := (1 : Int32)) hx hb dL_law_3412 (by decide) ?_
  refine lv_iadd hx hb dL_law_3413 ?_
  refine va_sld hx hb hX hbl hbA S.2 h1 dL_law_3414 ?_
  refine x_callVI C S KX12 ok_178 (ok_X12_formattedByte (L := L) hmod hSh ok_178) ⟨cd_X12_formattedByte, ni_RX12, ml_RL_370, in_X12_formattedByte, sl_X12_formattedByte⟩ ⟨by decide, by decide⟩ rfl ⟨by decide, by decide⟩ hl.1 rfl (Nat.le_of_ble_eq_true rfl) ⟨by show _ ≤ 601024; omega, by show _ ≤ 7293034; omega⟩ dL_law_3415 (fun H locs S => ?_)
  refine lv_icmp_eq (tgt := 3423) hx hb dL_law_3418 (by decide) (fun c1 => ?_) (fun c1 => absurd hres c1)
  exact W.widen (k := cells + 4) (n := slots + 24) (by omega) (by omega) (kk σ2 R L H locs ls hI2 S hl)
