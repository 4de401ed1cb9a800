theorem dl_1637 : decode code 1637 = .ok (.if_icmp .eq 1062, 3) := by decide +kernel
theorem dl_1640 : decode code 1640 = .ok (.iconst 0, 1) := by decide +kernel
theorem dl_1641 : decode code 1641 = .ok (.ireturn, 1) := by decide +kernel
theorem dl_1642 : decode code 1642 = .ok (.aload_n 1, 1) := by decide +kernel
theorem dl_1643 : decode code 1643 = .ok (.aload_n 0, 1) := by decide +kernel
theorem dl_1644 : decode code 1644 = .ok (.iload 4, 2) := by decide +kernel
theorem dl_1646 : decode code 1646 = .ok (.iconst 1, 1) := by decide +kernel
theorem dl_1647 : decode code 1647 = .ok (.iadd, 1) := by decide +kernel
theorem dl_1648 : decode code 1648 = .ok (.iaload, 1) := by decide +kernel
theorem dl_1649 : decode code 1649 = .ok (.aload_n 3, 1) := by decide +kernel
theorem dl_1650 : decode code 1650 = .ok (.invokestatic 241, 3) := by decide +kernel
theorem dl_1653 : decode code 1653 = .ok (.istore 5, 2) := by decide +kernel
theorem dl_1655 : decode code 1655 = .ok (.aload_n 2, 1) := by decide +kernel
theorem dl_1656 : decode code 1656 = .ok (.aload_n 0, 1) := by decide +kernel
theorem dl_1657 : decode code 1657 = .ok (.iload 4, 2) := by decide +kernel
theorem dl_1659 : decode code 1659 = .ok (.iconst 1, 1) := by decide +kernel
theorem dl_1660 : decode code 1660 = .ok (.iadd, 1) := by decide +kernel
theorem dl_1661 : decode code 1661 = .ok (.iaload, 1) := by decide +kernel
theorem dl_1662 : decode code 1662 = .ok (.invokevirtual 243, 3) := by decide +kernel
theorem dl_1665 : decode code 1665 = .ok (.istore 6, 2) := by decide +kernel
theorem dl_1667 : decode code 1667 = .ok (.aload_n 2, 1) := by decide +kernel
theorem dl_1668 : decode code 1668 = .ok (.invokevirtual 131, 3) := by decide +kernel
theorem dl_1671 : decode code 1671 = .ok (.iload 5, 2) := by decide +kernel
theorem dl_1673 : decode code 1673 = .ok (.if_icmp .eq 5, 3) := by decide +kernel
theorem dl_1676 : decode code 1676 = .ok (.iconst 0, 1) := by decide +kernel
theorem dl_1677 : decode code 1677 = .ok (.ireturn, 1) := by decide +kernel
theorem dl_1678 : decode code 1678 = .ok (.iload 5, 2) := by decide +kernel
theorem dl_1680 : decode code 1680 = .ok (.ifCond .ne 15, 3) := by decide +kernel
theorem dl_1683 : decode code 1683 = .ok (.aload_n 3, 1) := by decide +kernel
theorem dl_1684 : decode code 1684 = .ok (.iconst 0, 1) := by decide +kernel
theorem dl_1685 : decode code 1685 = .ok (.laload, 1) := by decide +kernel
theorem dl_1686 : decode code 1686 = .ok (.iload 6, 2) := by decide +kernel
theorem dl_1688 : decode code 1688 = .ok (.i2l, 1) := by decide +kernel
theorem dl_1689 : decode code 1689 = .ok (.lcmp, 1) := by decide +kernel
theorem dl_1690 : decode code 1690 = .ok (.ifCond .eq 5, 3) := by decide +kernel
theorem dl_1693 : decode code 1693 = .ok (.iconst 0, 1) := by decide +kernel
theorem dl_1694 : decode code 1694 = .ok (.ireturn, 1) := by decide +kernel
theorem dl_1695 : decode code 1695 = .ok (.goto 1004, 3) := by decide +kernel
theorem dl_1698 : decode code 1698 = .ok (.aload_n 1, 1) := by decide +kernel
theorem dl_1699 : decode code 1699 = .ok (.invokevirtual 244, 3) := by decide +kernel
theorem dl_1702 : decode code 1702 = .ok (.aload_n 2, 1) := by decide +kernel
theorem dl_1703 : decode code 1703 = .ok (.invokevirtual 247, 3) := by decide +kernel
theorem dl_1706 : decode code 1706 = .ok (.if_icmp .eq 993, 3) := by decide +kernel
theorem dl_1709 : decode code 1709 = .ok (.iconst 0, 1) := by decide +kernel
theorem dl_1710 : decode code 1710 = .ok (.ireturn, 1) := by decide +kernel
theorem dl_1711 : decode code 1711 = .ok (.aload_n 1, 1) := by decide +kernel
theorem dl_1712 : decode code 1712 = .ok (.aload_n 0, 1) := by decide +kernel
theorem dl_1713 : decode code 1713 = .ok (.iload 4, 2) := by decide +kernel
theorem dl_1715 : decode code 1715 = .ok (.iconst 1, 1) := by decide +kernel
theorem dl_1716 : decode code 1716 = .ok (.iadd, 1) := by decide +kernel
theorem dl_1717 : decode code 1717 = .ok (.iaload, 1) := by decide +kernel
theorem dl_1718 : decode code 1718 = .ok (.aload_n 3, 1) := by decide +kernel
theorem dl_1719 : decode code 1719 = .ok (.invokestatic 248, 3) := by decide +kernel
theorem dl_1722 : decode code 1722 = .ok (.istore 5, 2) := by decide +kernel
theorem dl_1724 : decode code 1724 = .ok (.aload_n 2, 1) := by decide +kernel
theorem dl_1725 : decode code 1725 = .ok (.aload_n 0, 1) := by decide +kernel
theorem dl_1726 : decode code 1726 = .ok (.iload 4, 2) := by decide +kernel
theorem dl_1728 : decode code 1728 = .ok (.iconst 1, 1) := by decide +kernel
theorem dl_1729 : decode code 1729 = .ok (.iadd, 1) := by decide +kernel
theorem dl_1730 : decode code 1730 = .ok (.iaload, 1) := by decide +kernel
theorem dl_1731 : decode code 1731 = .ok (.invokevirtual 250, 3) := by decide +kernel
theorem dl_1734 : decode code 1734 = .ok (.istore 6, 2) := by decide +kernel
theorem dl_1736 : decode code 1736 = .ok (.aload_n 2, 1) := by decide +kernel
theorem dl_1737 : decode code 1737 = .ok (.invokevirtual 131, 3) := by decide +kernel
theorem dl_1740 : decode code 1740 = .ok (.iload 5, 2) := by decide +kernel
theorem dl_1742 : decode code 1742 = .ok (.if_icmp .eq 5, 3) := by decide +kernel
theorem dl_1745 : decode code 1745 = .ok (.iconst 0, 1) := by decide +kernel
theorem dl_1746 : decode code 1746 = .ok (.ireturn, 1) := by decide +kernel
theorem dl_1747 : decode code 1747 = .ok (.iload 5, 2) := by decide +kernel
theorem dl_1749 : decode code 1749 = .ok (.ifCond .ne 15, 3) := by decide +kernel
theorem dl_1752 : decode code 1752 = .ok (.aload_n 3, 1) := by decide +kernel
theorem dl_1753 : decode code 1753 = .ok (.iconst 0, 1) := by decide +kernel
theorem dl_1754 : decode code 1754 = .ok (.laload, 1) := by decide +kernel
theorem dl_1755 : decode code 1755 = .ok (.iload 6, 2) := by decide +kernel
theorem dl_1757 : decode code 1757 = .ok (.i2l, 1) := by decide +kernel
theorem dl_1758 : decode code 1758 = .ok (.lcmp, 1) := by decide +kernel
theorem dl_1759 : decode code 1759 = .ok (.ifCond .eq 5, 3) := by decide +kernel
theorem dl_1762 : decode code 1762 = .ok (.iconst 0, 1) := by decide +kernel
theorem dl_1763 : decode code 1763 = .ok (.ireturn, 1) := by decide +kernel
theorem dl_1764 : decode code 1764 = .ok (.goto 935, 3) := by decide +kernel
theorem dl_1767 : decode code 1767 = .ok (.aload_n 1, 1) := by decide +kernel
theorem dl_1768 : decode code 1768 = .ok (.aload_n 0, 1) := by decide +kernel
theorem dl_1769 : decode code 1769 = .ok (.iload 4, 2) := by decide +kernel
theorem dl_1771 : decode code 1771 = .ok (.iconst 1, 1) := by decide +kernel
theorem dl_1772 : decode code 1772 = .ok (.iadd, 1) := by decide +kernel
theorem dl_1773 : decode code 1773 = .ok (.iaload, 1) := by decide +kernel
theorem dl_1774 : decode code 1774 = .ok (.aload_n 0, 1) := by decide +kernel
theorem dl_1775 : decode code 1775 = .ok (.iload 4, 2) := by decide +kernel
theorem dl_1777 : decode code 1777 = .ok (.iconst 2, 1) := by decide +kernel
theorem dl_1778 : decode code 1778 = .ok (.iadd, 1) := by decide +kernel
theorem dl_1779 : decode code 1779 = .ok (.iaload, 1) := by decide +kernel
theorem dl_1780 : decode code 1780 = .ok (.aload_n 3, 1) := by decide +kernel
theorem dl_1781 : decode code 1781 = .ok (.invokestatic 251, 3) := by decide +kernel
theorem dl_1784 : decode code 1784 = .ok (.istore 5, 2) := by decide +kernel
theorem dl_1786 : decode code 1786 = .ok (.aload_n 2, 1) := by decide +kernel
theorem dl_1787 : decode code 1787 = .ok (.aload_n 0, 1) := by decide +kernel
theorem dl_1788 : decode code 1788 = .ok (.iload 4, 2) := by decide +kernel
theorem dl_1790 : decode code 1790 = .ok (.iconst 1, 1) := by decide +kernel
theorem dl_1791 : decode code 1791 = .ok (.iadd, 1) := by decide +kernel
theorem dl_1792 : decode code 1792 = .ok (.iaload, 1) := by decide +kernel
theorem dl_1793 : decode code 1793 = .ok (.aload_n 0, 1) := by decide +kernel
theorem dl_1794 : decode code 1794 = .ok (.iload 4, 2) := by decide +kernel
theorem dl_1796 : decode code 1796 = .ok (.iconst 2, 1) := by decide +kernel
theorem dl_1797 : decode code 1797 = .ok (.iadd, 1) := by decide +kernel
theorem dl_1798 : decode code 1798 = .ok (.iaload, 1) := by decide +kernel
theorem dl_1799 : decode code 1799 = .ok (.invokevirtual 253, 3) := by decide +kernel
theorem dl_1802 : decode code 1802 = .ok (.istore 6, 2) := by decide +kernel
theorem dl_1804 : decode code 1804 = .ok (.aload_n 2, 1) := by decide +kernel
theorem dl_1805 : decode code 1805 = .ok (.invokevirtual 131, 3) := by decide +kernel
theorem dl_1808 : decode code 1808 = .ok (.iload 5, 2) := by decide +kernel
