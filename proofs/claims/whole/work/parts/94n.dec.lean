theorem dl_2530 : decode code 2530 = .ok (.ireturn, 1) := by decide +kernel
theorem dl_2531 : decode code 2531 = .ok (.iload 5, 2) := by decide +kernel
theorem dl_2533 : decode code 2533 = .ok (.ifCond .ne 15, 3) := by decide +kernel
theorem dl_2536 : decode code 2536 = .ok (.aload_n 3, 1) := by decide +kernel
theorem dl_2537 : decode code 2537 = .ok (.iconst 0, 1) := by decide +kernel
theorem dl_2538 : decode code 2538 = .ok (.laload, 1) := by decide +kernel
theorem dl_2539 : decode code 2539 = .ok (.iload 6, 2) := by decide +kernel
theorem dl_2541 : decode code 2541 = .ok (.i2l, 1) := by decide +kernel
theorem dl_2542 : decode code 2542 = .ok (.lcmp, 1) := by decide +kernel
theorem dl_2543 : decode code 2543 = .ok (.ifCond .eq 5, 3) := by decide +kernel
theorem dl_2546 : decode code 2546 = .ok (.iconst 0, 1) := by decide +kernel
theorem dl_2547 : decode code 2547 = .ok (.ireturn, 1) := by decide +kernel
theorem dl_2548 : decode code 2548 = .ok (.goto 151, 3) := by decide +kernel
theorem dl_2551 : decode code 2551 = .ok (.aload_n 1, 1) := by decide +kernel
theorem dl_2552 : decode code 2552 = .ok (.invokevirtual 316, 3) := by decide +kernel
theorem dl_2555 : decode code 2555 = .ok (.aload_n 2, 1) := by decide +kernel
theorem dl_2556 : decode code 2556 = .ok (.invokevirtual 319, 3) := by decide +kernel
theorem dl_2559 : decode code 2559 = .ok (.if_icmp .eq 140, 3) := by decide +kernel
theorem dl_2562 : decode code 2562 = .ok (.iconst 0, 1) := by decide +kernel
theorem dl_2563 : decode code 2563 = .ok (.ireturn, 1) := by decide +kernel
theorem dl_2564 : decode code 2564 = .ok (.aload_n 1, 1) := by decide +kernel
theorem dl_2565 : decode code 2565 = .ok (.invokevirtual 320, 3) := by decide +kernel
theorem dl_2568 : decode code 2568 = .ok (.dstore 5, 2) := by decide +kernel
theorem dl_2570 : decode code 2570 = .ok (.aload_n 2, 1) := by decide +kernel
theorem dl_2571 : decode code 2571 = .ok (.invokevirtual 324, 3) := by decide +kernel
theorem dl_2574 : decode code 2574 = .ok (.dstore 7, 2) := by decide +kernel
theorem dl_2576 : decode code 2576 = .ok (.dload 5, 2) := by decide +kernel
theorem dl_2578 : decode code 2578 = .ok (.dload 7, 2) := by decide +kernel
theorem dl_2580 : decode code 2580 = .ok (.dcmp .l, 1) := by decide +kernel
theorem dl_2581 : decode code 2581 = .ok (.ifCond .eq 21, 3) := by decide +kernel
theorem dl_2584 : decode code 2584 = .ok (.dload 5, 2) := by decide +kernel
theorem dl_2586 : decode code 2586 = .ok (.dload 5, 2) := by decide +kernel
theorem dl_2588 : decode code 2588 = .ok (.dcmp .l, 1) := by decide +kernel
theorem dl_2589 : decode code 2589 = .ok (.ifCond .eq 11, 3) := by decide +kernel
theorem dl_2592 : decode code 2592 = .ok (.dload 7, 2) := by decide +kernel
theorem dl_2594 : decode code 2594 = .ok (.dload 7, 2) := by decide +kernel
theorem dl_2596 : decode code 2596 = .ok (.dcmp .l, 1) := by decide +kernel
theorem dl_2597 : decode code 2597 = .ok (.ifCond .ne 5, 3) := by decide +kernel
theorem dl_2600 : decode code 2600 = .ok (.iconst 0, 1) := by decide +kernel
theorem dl_2601 : decode code 2601 = .ok (.ireturn, 1) := by decide +kernel
theorem dl_2602 : decode code 2602 = .ok (.goto 97, 3) := by decide +kernel
theorem dl_2605 : decode code 2605 = .ok (.aload_n 1, 1) := by decide +kernel
theorem dl_2606 : decode code 2606 = .ok (.invokevirtual 325, 3) := by decide +kernel
theorem dl_2609 : decode code 2609 = .ok (.f2d, 1) := by decide +kernel
theorem dl_2610 : decode code 2610 = .ok (.dstore 5, 2) := by decide +kernel
theorem dl_2612 : decode code 2612 = .ok (.aload_n 2, 1) := by decide +kernel
theorem dl_2613 : decode code 2613 = .ok (.invokevirtual 329, 3) := by decide +kernel
theorem dl_2616 : decode code 2616 = .ok (.f2d, 1) := by decide +kernel
theorem dl_2617 : decode code 2617 = .ok (.dstore 7, 2) := by decide +kernel
theorem dl_2619 : decode code 2619 = .ok (.dload 5, 2) := by decide +kernel
theorem dl_2621 : decode code 2621 = .ok (.dload 7, 2) := by decide +kernel
theorem dl_2623 : decode code 2623 = .ok (.dcmp .l, 1) := by decide +kernel
theorem dl_2624 : decode code 2624 = .ok (.ifCond .eq 21, 3) := by decide +kernel
theorem dl_2627 : decode code 2627 = .ok (.dload 5, 2) := by decide +kernel
theorem dl_2629 : decode code 2629 = .ok (.dload 5, 2) := by decide +kernel
theorem dl_2631 : decode code 2631 = .ok (.dcmp .l, 1) := by decide +kernel
theorem dl_2632 : decode code 2632 = .ok (.ifCond .eq 11, 3) := by decide +kernel
theorem dl_2635 : decode code 2635 = .ok (.dload 7, 2) := by decide +kernel
theorem dl_2637 : decode code 2637 = .ok (.dload 7, 2) := by decide +kernel
theorem dl_2639 : decode code 2639 = .ok (.dcmp .l, 1) := by decide +kernel
theorem dl_2640 : decode code 2640 = .ok (.ifCond .ne 5, 3) := by decide +kernel
theorem dl_2643 : decode code 2643 = .ok (.iconst 0, 1) := by decide +kernel
theorem dl_2644 : decode code 2644 = .ok (.ireturn, 1) := by decide +kernel
theorem dl_2645 : decode code 2645 = .ok (.goto 54, 3) := by decide +kernel
theorem dl_2648 : decode code 2648 = .ok (.aload_n 1, 1) := by decide +kernel
theorem dl_2649 : decode code 2649 = .ok (.invokevirtual 330, 3) := by decide +kernel
theorem dl_2652 : decode code 2652 = .ok (.aload_n 2, 1) := by decide +kernel
theorem dl_2653 : decode code 2653 = .ok (.invokevirtual 333, 3) := by decide +kernel
theorem dl_2656 : decode code 2656 = .ok (.if_icmp .eq 43, 3) := by decide +kernel
theorem dl_2659 : decode code 2659 = .ok (.iconst 0, 1) := by decide +kernel
theorem dl_2660 : decode code 2660 = .ok (.ireturn, 1) := by decide +kernel
theorem dl_2661 : decode code 2661 = .ok (.aload_n 1, 1) := by decide +kernel
theorem dl_2662 : decode code 2662 = .ok (.invokevirtual 334, 3) := by decide +kernel
theorem dl_2665 : decode code 2665 = .ok (.aload_n 2, 1) := by decide +kernel
theorem dl_2666 : decode code 2666 = .ok (.invokevirtual 337, 3) := by decide +kernel
theorem dl_2669 : decode code 2669 = .ok (.if_icmp .eq 30, 3) := by decide +kernel
theorem dl_2672 : decode code 2672 = .ok (.iconst 0, 1) := by decide +kernel
theorem dl_2673 : decode code 2673 = .ok (.ireturn, 1) := by decide +kernel
theorem dl_2674 : decode code 2674 = .ok (.aload_n 1, 1) := by decide +kernel
theorem dl_2675 : decode code 2675 = .ok (.aload_n 0, 1) := by decide +kernel
theorem dl_2676 : decode code 2676 = .ok (.iload 4, 2) := by decide +kernel
theorem dl_2678 : decode code 2678 = .ok (.iconst 1, 1) := by decide +kernel
theorem dl_2679 : decode code 2679 = .ok (.iadd, 1) := by decide +kernel
theorem dl_2680 : decode code 2680 = .ok (.iaload, 1) := by decide +kernel
theorem dl_2681 : decode code 2681 = .ok (.invokevirtual 338, 3) := by decide +kernel
theorem dl_2684 : decode code 2684 = .ok (.aload_n 2, 1) := by decide +kernel
theorem dl_2685 : decode code 2685 = .ok (.aload_n 0, 1) := by decide +kernel
theorem dl_2686 : decode code 2686 = .ok (.iload 4, 2) := by decide +kernel
theorem dl_2688 : decode code 2688 = .ok (.iconst 1, 1) := by decide +kernel
theorem dl_2689 : decode code 2689 = .ok (.iadd, 1) := by decide +kernel
theorem dl_2690 : decode code 2690 = .ok (.iaload, 1) := by decide +kernel
theorem dl_2691 : decode code 2691 = .ok (.invokevirtual 341, 3) := by decide +kernel
theorem dl_2694 : decode code 2694 = .ok (.if_icmp .eq 5, 3) := by decide +kernel
theorem dl_2697 : decode code 2697 = .ok (.iconst 0, 1) := by decide +kernel
theorem dl_2698 : decode code 2698 = .ok (.ireturn, 1) := by decide +kernel
theorem dl_2699 : decode code 2699 = .ok (.iinc 4 6, 3) := by decide +kernel
theorem dl_2702 : decode code 2702 = .ok (.goto (-2679), 3) := by decide +kernel
theorem dl_2705 : decode code 2705 = .ok (.iconst 1, 1) := by decide +kernel
theorem dl_2706 : decode code 2706 = .ok (.ireturn, 1) := by decide +kernel
